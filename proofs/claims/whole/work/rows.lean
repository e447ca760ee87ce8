section
-- ===== PART A: goes FIRST, ahead of the names: the tables' words, and 'selects' of the private methods out of them =====
/-- a private method of a class that the tables say can be made, by its rows of tables_1 -/
def lw_okq (q : MethodName × Nat) : Prop := (q.1.cls ≠ "java/lang/invoke/MethodHandle" ∧ q.1.cls ≠ "java/lang/invoke/VarHandle") ∧ Cond.instantiable q.1.cls q.2 ∈ tables_1 ∧ Cond.privateMethod q.1 ∈ tables_1 ∧ Cond.instanceMethod q.1 ∈ tables_1
theorem lw_p0 : lw_okq (⟨"SwapCalls$Routine", "readText", "()V"⟩, 12) := ⟨⟨by decide +kernel, by decide +kernel⟩, List.mem_of_getElem? (i := 137) (by decide +kernel), List.mem_of_getElem? (i := 254) (by decide +kernel), List.mem_of_getElem? (i := 255) (by decide +kernel)⟩
theorem lw_p1 : lw_okq (⟨"SwapCalls$Routine", "readStatement", "(I)Z"⟩, 12) := ⟨⟨by decide +kernel, by decide +kernel⟩, List.mem_of_getElem? (i := 137) (by decide +kernel), List.mem_of_getElem? (i := 258) (by decide +kernel), List.mem_of_getElem? (i := 259) (by decide +kernel)⟩
theorem lw_p2 : lw_okq (⟨"SwapCalls$Routine", "readCallee", "(I)Z"⟩, 12) := ⟨⟨by decide +kernel, by decide +kernel⟩, List.mem_of_getElem? (i := 137) (by decide +kernel), List.mem_of_getElem? (i := 265) (by decide +kernel), List.mem_of_getElem? (i := 266) (by decide +kernel)⟩
theorem lw_p3 : lw_okq (⟨"SwapCalls$Routine", "readIndex", "()I"⟩, 12) := ⟨⟨by decide +kernel, by decide +kernel⟩, List.mem_of_getElem? (i := 137) (by decide +kernel), List.mem_of_getElem? (i := 269) (by decide +kernel), List.mem_of_getElem? (i := 270) (by decide +kernel)⟩
theorem lw_p4 : lw_okq (⟨"SwapCalls$Routine", "readLetter", "()I"⟩, 12) := ⟨⟨by decide +kernel, by decide +kernel⟩, List.mem_of_getElem? (i := 137) (by decide +kernel), List.mem_of_getElem? (i := 276) (by decide +kernel), List.mem_of_getElem? (i := 277) (by decide +kernel)⟩
theorem lw_p5 : lw_okq (⟨"SwapCalls$Routine", "readTerm", "()Z"⟩, 12) := ⟨⟨by decide +kernel, by decide +kernel⟩, List.mem_of_getElem? (i := 137) (by decide +kernel), List.mem_of_getElem? (i := 283) (by decide +kernel), List.mem_of_getElem? (i := 284) (by decide +kernel)⟩
theorem lw_p6 : lw_okq (⟨"SwapCalls$Routine", "readLeaf", "()Z"⟩, 12) := ⟨⟨by decide +kernel, by decide +kernel⟩, List.mem_of_getElem? (i := 137) (by decide +kernel), List.mem_of_getElem? (i := 287) (by decide +kernel), List.mem_of_getElem? (i := 288) (by decide +kernel)⟩
theorem lw_p7 : lw_okq (⟨"SwapCalls$Routine", "addLeaf", "(II)Z"⟩, 12) := ⟨⟨by decide +kernel, by decide +kernel⟩, List.mem_of_getElem? (i := 137) (by decide +kernel), List.mem_of_getElem? (i := 291) (by decide +kernel), List.mem_of_getElem? (i := 292) (by decide +kernel)⟩
theorem lw_p8 : lw_okq (⟨"SwapCalls$Effects", "findKnown", "([LSwapCalls$Routine;)V"⟩, 6) := ⟨⟨by decide +kernel, by decide +kernel⟩, List.mem_of_getElem? (i := 22) (by decide +kernel), List.mem_of_getElem? (i := 327) (by decide +kernel), List.mem_of_getElem? (i := 328) (by decide +kernel)⟩
theorem lw_p9 : lw_okq (⟨"SwapCalls$Effects", "knowsBits", "(I)Z"⟩, 6) := ⟨⟨by decide +kernel, by decide +kernel⟩, List.mem_of_getElem? (i := 22) (by decide +kernel), List.mem_of_getElem? (i := 335) (by decide +kernel), List.mem_of_getElem? (i := 336) (by decide +kernel)⟩
theorem lw_p10 : lw_okq (⟨"SwapCalls$Effects", "startWithOwn", "(LSwapCalls$Routine;II)V"⟩, 6) := ⟨⟨by decide +kernel, by decide +kernel⟩, List.mem_of_getElem? (i := 22) (by decide +kernel), List.mem_of_getElem? (i := 339) (by decide +kernel), List.mem_of_getElem? (i := 340) (by decide +kernel)⟩
theorem lw_p11 : lw_okq (⟨"SwapCalls$Effects", "goRound", "([LSwapCalls$Routine;)Z"⟩, 6) := ⟨⟨by decide +kernel, by decide +kernel⟩, List.mem_of_getElem? (i := 22) (by decide +kernel), List.mem_of_getElem? (i := 346) (by decide +kernel), List.mem_of_getElem? (i := 347) (by decide +kernel)⟩
theorem lw_p12 : lw_okq (⟨"SwapCalls$Effects", "takeFromCallees", "(LSwapCalls$Routine;II)Z"⟩, 6) := ⟨⟨by decide +kernel, by decide +kernel⟩, List.mem_of_getElem? (i := 22) (by decide +kernel), List.mem_of_getElem? (i := 350) (by decide +kernel), List.mem_of_getElem? (i := 351) (by decide +kernel)⟩
theorem lw_p13 : lw_okq (⟨"SwapCalls$Effects", "take", "(II)Z"⟩, 6) := ⟨⟨by decide +kernel, by decide +kernel⟩, List.mem_of_getElem? (i := 22) (by decide +kernel), List.mem_of_getElem? (i := 354) (by decide +kernel), List.mem_of_getElem? (i := 355) (by decide +kernel)⟩
theorem lw_p14 : lw_okq (⟨"SwapCalls", "layProgram", "()Z"⟩, 8) := ⟨⟨by decide +kernel, by decide +kernel⟩, List.mem_of_getElem? (i := 12) (by decide +kernel), List.mem_of_getElem? (i := 403) (by decide +kernel), List.mem_of_getElem? (i := 404) (by decide +kernel)⟩
theorem lw_p15 : lw_okq (⟨"SwapCalls$Layout", "position", "(II)I"⟩, 6) := ⟨⟨by decide +kernel, by decide +kernel⟩, List.mem_of_getElem? (i := 80) (by decide +kernel), List.mem_of_getElem? (i := 426) (by decide +kernel), List.mem_of_getElem? (i := 427) (by decide +kernel)⟩
def lw_privs_1 : List (MethodName × Nat) := [(⟨"SwapCalls$Routine", "readText", "()V"⟩, 12), (⟨"SwapCalls$Routine", "readStatement", "(I)Z"⟩, 12), (⟨"SwapCalls$Routine", "readCallee", "(I)Z"⟩, 12), (⟨"SwapCalls$Routine", "readIndex", "()I"⟩, 12), (⟨"SwapCalls$Routine", "readLetter", "()I"⟩, 12), (⟨"SwapCalls$Routine", "readTerm", "()Z"⟩, 12), (⟨"SwapCalls$Routine", "readLeaf", "()Z"⟩, 12), (⟨"SwapCalls$Routine", "addLeaf", "(II)Z"⟩, 12), (⟨"SwapCalls$Effects", "findKnown", "([LSwapCalls$Routine;)V"⟩, 6), (⟨"SwapCalls$Effects", "knowsBits", "(I)Z"⟩, 6), (⟨"SwapCalls$Effects", "startWithOwn", "(LSwapCalls$Routine;II)V"⟩, 6), (⟨"SwapCalls$Effects", "goRound", "([LSwapCalls$Routine;)Z"⟩, 6), (⟨"SwapCalls$Effects", "takeFromCallees", "(LSwapCalls$Routine;II)Z"⟩, 6), (⟨"SwapCalls$Effects", "take", "(II)Z"⟩, 6), (⟨"SwapCalls", "layProgram", "()Z"⟩, 8), (⟨"SwapCalls$Layout", "position", "(II)I"⟩, 6)]
theorem lw_r1 : ∀ q ∈ lw_privs_1, lw_okq q := List.forall_mem_cons.mpr ⟨lw_p0, List.forall_mem_cons.mpr ⟨lw_p1, List.forall_mem_cons.mpr ⟨lw_p2, List.forall_mem_cons.mpr ⟨lw_p3, List.forall_mem_cons.mpr ⟨lw_p4, List.forall_mem_cons.mpr ⟨lw_p5, List.forall_mem_cons.mpr ⟨lw_p6, List.forall_mem_cons.mpr ⟨lw_p7, List.forall_mem_cons.mpr ⟨lw_p8, List.forall_mem_cons.mpr ⟨lw_p9, List.forall_mem_cons.mpr ⟨lw_p10, List.forall_mem_cons.mpr ⟨lw_p11, List.forall_mem_cons.mpr ⟨lw_p12, List.forall_mem_cons.mpr ⟨lw_p13, List.forall_mem_cons.mpr ⟨lw_p14, List.forall_mem_cons.mpr ⟨lw_p15, fun _ h => absurd h List.not_mem_nil⟩⟩⟩⟩⟩⟩⟩⟩⟩⟩⟩⟩⟩⟩⟩⟩
theorem lw_p16 : lw_okq (⟨"SwapCalls$Layout", "goesAhead", "(III)Z"⟩, 6) := ⟨⟨by decide +kernel, by decide +kernel⟩, List.mem_of_getElem? (i := 80) (by decide +kernel), List.mem_of_getElem? (i := 430) (by decide +kernel), List.mem_of_getElem? (i := 431) (by decide +kernel)⟩
theorem lw_p17 : lw_okq (⟨"SwapCalls$Layout", "sizeOfStage", "(I)I"⟩, 6) := ⟨⟨by decide +kernel, by decide +kernel⟩, List.mem_of_getElem? (i := 80) (by decide +kernel), List.mem_of_getElem? (i := 442) (by decide +kernel), List.mem_of_getElem? (i := 443) (by decide +kernel)⟩
theorem lw_p18 : lw_okq (⟨"SwapCalls", "compareWithImage", "(LSwapCalls$Program;)I"⟩, 8) := ⟨⟨by decide +kernel, by decide +kernel⟩, List.mem_of_getElem? (i := 12) (by decide +kernel), List.mem_of_getElem? (i := 458) (by decide +kernel), List.mem_of_getElem? (i := 459) (by decide +kernel)⟩
theorem lw_p19 : lw_okq (⟨"SwapCalls", "perform", "(I)Z"⟩, 8) := ⟨⟨by decide +kernel, by decide +kernel⟩, List.mem_of_getElem? (i := 12) (by decide +kernel), List.mem_of_getElem? (i := 474) (by decide +kernel), List.mem_of_getElem? (i := 475) (by decide +kernel)⟩
theorem lw_p20 : lw_okq (⟨"SwapCalls$Machine", "doRoutine", "([LSwapCalls$Routine;III)I"⟩, 5) := ⟨⟨by decide +kernel, by decide +kernel⟩, List.mem_of_getElem? (i := 112) (by decide +kernel), List.mem_of_getElem? (i := 484) (by decide +kernel), List.mem_of_getElem? (i := 485) (by decide +kernel)⟩
theorem lw_p21 : lw_okq (⟨"SwapCalls$Machine", "doSimple", "(LSwapCalls$Routine;III)I"⟩, 5) := ⟨⟨by decide +kernel, by decide +kernel⟩, List.mem_of_getElem? (i := 112) (by decide +kernel), List.mem_of_getElem? (i := 489) (by decide +kernel), List.mem_of_getElem? (i := 490) (by decide +kernel)⟩
theorem lw_p22 : lw_okq (⟨"SwapCalls$Machine", "sumOfLeaves", "(LSwapCalls$Routine;II)I"⟩, 5) := ⟨⟨by decide +kernel, by decide +kernel⟩, List.mem_of_getElem? (i := 112) (by decide +kernel), List.mem_of_getElem? (i := 493) (by decide +kernel), List.mem_of_getElem? (i := 494) (by decide +kernel)⟩
theorem lw_p23 : lw_okq (⟨"SwapCallsModel", "faultOf", "(I)I"⟩, 39) := ⟨⟨by decide +kernel, by decide +kernel⟩, List.mem_of_getElem? (i := 533) (by decide +kernel), List.mem_of_getElem? (i := 678) (by decide +kernel), List.mem_of_getElem? (i := 679) (by decide +kernel)⟩
theorem lw_p24 : lw_okq (⟨"SwapCallsModel", "begin", "(I)V"⟩, 39) := ⟨⟨by decide +kernel, by decide +kernel⟩, List.mem_of_getElem? (i := 533) (by decide +kernel), List.mem_of_getElem? (i := 682) (by decide +kernel), List.mem_of_getElem? (i := 683) (by decide +kernel)⟩
theorem lw_p25 : lw_okq (⟨"SwapCallsModel", "isMore", "()Z"⟩, 39) := ⟨⟨by decide +kernel, by decide +kernel⟩, List.mem_of_getElem? (i := 533) (by decide +kernel), List.mem_of_getElem? (i := 686) (by decide +kernel), List.mem_of_getElem? (i := 687) (by decide +kernel)⟩
theorem lw_p26 : lw_okq (⟨"SwapCallsModel", "statement", "(I)Z"⟩, 39) := ⟨⟨by decide +kernel, by decide +kernel⟩, List.mem_of_getElem? (i := 533) (by decide +kernel), List.mem_of_getElem? (i := 690) (by decide +kernel), List.mem_of_getElem? (i := 691) (by decide +kernel)⟩
theorem lw_p27 : lw_okq (⟨"SwapCallsModel", "here", "()I"⟩, 39) := ⟨⟨by decide +kernel, by decide +kernel⟩, List.mem_of_getElem? (i := 533) (by decide +kernel), List.mem_of_getElem? (i := 694) (by decide +kernel), List.mem_of_getElem? (i := 695) (by decide +kernel)⟩
theorem lw_p28 : lw_okq (⟨"SwapCallsModel", "callHere", "(I)Z"⟩, 39) := ⟨⟨by decide +kernel, by decide +kernel⟩, List.mem_of_getElem? (i := 533) (by decide +kernel), List.mem_of_getElem? (i := 698) (by decide +kernel), List.mem_of_getElem? (i := 699) (by decide +kernel)⟩
theorem lw_p29 : lw_okq (⟨"SwapCallsModel", "index", "(I)I"⟩, 39) := ⟨⟨by decide +kernel, by decide +kernel⟩, List.mem_of_getElem? (i := 533) (by decide +kernel), List.mem_of_getElem? (i := 702) (by decide +kernel), List.mem_of_getElem? (i := 703) (by decide +kernel)⟩
theorem lw_p30 : lw_okq (⟨"SwapCallsModel", "numberHere", "()Z"⟩, 39) := ⟨⟨by decide +kernel, by decide +kernel⟩, List.mem_of_getElem? (i := 533) (by decide +kernel), List.mem_of_getElem? (i := 709) (by decide +kernel), List.mem_of_getElem? (i := 710) (by decide +kernel)⟩
theorem lw_p31 : lw_okq (⟨"SwapCallsModel", "cellHere", "(I)Z"⟩, 39) := ⟨⟨by decide +kernel, by decide +kernel⟩, List.mem_of_getElem? (i := 533) (by decide +kernel), List.mem_of_getElem? (i := 716) (by decide +kernel), List.mem_of_getElem? (i := 717) (by decide +kernel)⟩
def lw_privs_2 : List (MethodName × Nat) := [(⟨"SwapCalls$Layout", "goesAhead", "(III)Z"⟩, 6), (⟨"SwapCalls$Layout", "sizeOfStage", "(I)I"⟩, 6), (⟨"SwapCalls", "compareWithImage", "(LSwapCalls$Program;)I"⟩, 8), (⟨"SwapCalls", "perform", "(I)Z"⟩, 8), (⟨"SwapCalls$Machine", "doRoutine", "([LSwapCalls$Routine;III)I"⟩, 5), (⟨"SwapCalls$Machine", "doSimple", "(LSwapCalls$Routine;III)I"⟩, 5), (⟨"SwapCalls$Machine", "sumOfLeaves", "(LSwapCalls$Routine;II)I"⟩, 5), (⟨"SwapCallsModel", "faultOf", "(I)I"⟩, 39), (⟨"SwapCallsModel", "begin", "(I)V"⟩, 39), (⟨"SwapCallsModel", "isMore", "()Z"⟩, 39), (⟨"SwapCallsModel", "statement", "(I)Z"⟩, 39), (⟨"SwapCallsModel", "here", "()I"⟩, 39), (⟨"SwapCallsModel", "callHere", "(I)Z"⟩, 39), (⟨"SwapCallsModel", "index", "(I)I"⟩, 39), (⟨"SwapCallsModel", "numberHere", "()Z"⟩, 39), (⟨"SwapCallsModel", "cellHere", "(I)Z"⟩, 39)]
theorem lw_r2 : ∀ q ∈ lw_privs_2, lw_okq q := List.forall_mem_cons.mpr ⟨lw_p16, List.forall_mem_cons.mpr ⟨lw_p17, List.forall_mem_cons.mpr ⟨lw_p18, List.forall_mem_cons.mpr ⟨lw_p19, List.forall_mem_cons.mpr ⟨lw_p20, List.forall_mem_cons.mpr ⟨lw_p21, List.forall_mem_cons.mpr ⟨lw_p22, List.forall_mem_cons.mpr ⟨lw_p23, List.forall_mem_cons.mpr ⟨lw_p24, List.forall_mem_cons.mpr ⟨lw_p25, List.forall_mem_cons.mpr ⟨lw_p26, List.forall_mem_cons.mpr ⟨lw_p27, List.forall_mem_cons.mpr ⟨lw_p28, List.forall_mem_cons.mpr ⟨lw_p29, List.forall_mem_cons.mpr ⟨lw_p30, List.forall_mem_cons.mpr ⟨lw_p31, fun _ h => absurd h List.not_mem_nil⟩⟩⟩⟩⟩⟩⟩⟩⟩⟩⟩⟩⟩⟩⟩⟩
theorem lw_p32 : lw_okq (⟨"SwapCallsModel", "term", "(I)Z"⟩, 39) := ⟨⟨by decide +kernel, by decide +kernel⟩, List.mem_of_getElem? (i := 533) (by decide +kernel), List.mem_of_getElem? (i := 720) (by decide +kernel), List.mem_of_getElem? (i := 721) (by decide +kernel)⟩
theorem lw_p33 : lw_okq (⟨"SwapCallsModel", "leaf", "(I)Z"⟩, 39) := ⟨⟨by decide +kernel, by decide +kernel⟩, List.mem_of_getElem? (i := 533) (by decide +kernel), List.mem_of_getElem? (i := 724) (by decide +kernel), List.mem_of_getElem? (i := 725) (by decide +kernel)⟩
theorem lw_p34 : lw_okq (⟨"SwapCallsModel", "findEffects", "()V"⟩, 39) := ⟨⟨by decide +kernel, by decide +kernel⟩, List.mem_of_getElem? (i := 533) (by decide +kernel), List.mem_of_getElem? (i := 750) (by decide +kernel), List.mem_of_getElem? (i := 751) (by decide +kernel)⟩
theorem lw_p35 : lw_okq (⟨"SwapCallsModel", "findReaches", "()V"⟩, 39) := ⟨⟨by decide +kernel, by decide +kernel⟩, List.mem_of_getElem? (i := 533) (by decide +kernel), List.mem_of_getElem? (i := 754) (by decide +kernel), List.mem_of_getElem? (i := 755) (by decide +kernel)⟩
theorem lw_p36 : lw_okq (⟨"SwapCallsModel", "callsOf", "(I)I"⟩, 39) := ⟨⟨by decide +kernel, by decide +kernel⟩, List.mem_of_getElem? (i := 533) (by decide +kernel), List.mem_of_getElem? (i := 758) (by decide +kernel), List.mem_of_getElem? (i := 759) (by decide +kernel)⟩
theorem lw_p37 : lw_okq (⟨"SwapCallsModel", "addEffects", "(II)V"⟩, 39) := ⟨⟨by decide +kernel, by decide +kernel⟩, List.mem_of_getElem? (i := 533) (by decide +kernel), List.mem_of_getElem? (i := 762) (by decide +kernel), List.mem_of_getElem? (i := 763) (by decide +kernel)⟩
theorem lw_p38 : lw_okq (⟨"SwapCallsModel", "takeIn", "(IIIII)V"⟩, 39) := ⟨⟨by decide +kernel, by decide +kernel⟩, List.mem_of_getElem? (i := 533) (by decide +kernel), List.mem_of_getElem? (i := 766) (by decide +kernel), List.mem_of_getElem? (i := 767) (by decide +kernel)⟩
theorem lw_p39 : lw_okq (⟨"SwapCallsModel", "more", "(II)I"⟩, 39) := ⟨⟨by decide +kernel, by decide +kernel⟩, List.mem_of_getElem? (i := 533) (by decide +kernel), List.mem_of_getElem? (i := 770) (by decide +kernel), List.mem_of_getElem? (i := 771) (by decide +kernel)⟩
theorem lw_p40 : lw_okq (⟨"SwapCallsModel", "isKnown", "(I)Z"⟩, 39) := ⟨⟨by decide +kernel, by decide +kernel⟩, List.mem_of_getElem? (i := 533) (by decide +kernel), List.mem_of_getElem? (i := 774) (by decide +kernel), List.mem_of_getElem? (i := 775) (by decide +kernel)⟩
theorem lw_p41 : lw_okq (⟨"SwapCallsModel", "causesOf", "(II)I"⟩, 39) := ⟨⟨by decide +kernel, by decide +kernel⟩, List.mem_of_getElem? (i := 533) (by decide +kernel), List.mem_of_getElem? (i := 782) (by decide +kernel), List.mem_of_getElem? (i := 783) (by decide +kernel)⟩
theorem lw_p42 : lw_okq (⟨"SwapCallsModel", "isCall", "(I)Z"⟩, 39) := ⟨⟨by decide +kernel, by decide +kernel⟩, List.mem_of_getElem? (i := 533) (by decide +kernel), List.mem_of_getElem? (i := 794) (by decide +kernel), List.mem_of_getElem? (i := 795) (by decide +kernel)⟩
theorem lw_p43 : lw_okq (⟨"SwapCallsModel", "effectOf", "(I)I"⟩, 39) := ⟨⟨by decide +kernel, by decide +kernel⟩, List.mem_of_getElem? (i := 533) (by decide +kernel), List.mem_of_getElem? (i := 802) (by decide +kernel), List.mem_of_getElem? (i := 803) (by decide +kernel)⟩
theorem lw_p44 : lw_okq (⟨"SwapCallsModel", "isFound", "()Z"⟩, 39) := ⟨⟨by decide +kernel, by decide +kernel⟩, List.mem_of_getElem? (i := 533) (by decide +kernel), List.mem_of_getElem? (i := 813) (by decide +kernel), List.mem_of_getElem? (i := 814) (by decide +kernel)⟩
theorem lw_p45 : lw_okq (⟨"SwapCallsModel", "isAllKnown", "()Z"⟩, 39) := ⟨⟨by decide +kernel, by decide +kernel⟩, List.mem_of_getElem? (i := 533) (by decide +kernel), List.mem_of_getElem? (i := 817) (by decide +kernel), List.mem_of_getElem? (i := 818) (by decide +kernel)⟩
theorem lw_p46 : lw_okq (⟨"SwapCallsModel", "findStages", "()V"⟩, 39) := ⟨⟨by decide +kernel, by decide +kernel⟩, List.mem_of_getElem? (i := 533) (by decide +kernel), List.mem_of_getElem? (i := 821) (by decide +kernel), List.mem_of_getElem? (i := 822) (by decide +kernel)⟩
theorem lw_p47 : lw_okq (⟨"SwapCallsModel", "isAhead", "(II)Z"⟩, 39) := ⟨⟨by decide +kernel, by decide +kernel⟩, List.mem_of_getElem? (i := 533) (by decide +kernel), List.mem_of_getElem? (i := 825) (by decide +kernel), List.mem_of_getElem? (i := 826) (by decide +kernel)⟩
def lw_privs_3 : List (MethodName × Nat) := [(⟨"SwapCallsModel", "term", "(I)Z"⟩, 39), (⟨"SwapCallsModel", "leaf", "(I)Z"⟩, 39), (⟨"SwapCallsModel", "findEffects", "()V"⟩, 39), (⟨"SwapCallsModel", "findReaches", "()V"⟩, 39), (⟨"SwapCallsModel", "callsOf", "(I)I"⟩, 39), (⟨"SwapCallsModel", "addEffects", "(II)V"⟩, 39), (⟨"SwapCallsModel", "takeIn", "(IIIII)V"⟩, 39), (⟨"SwapCallsModel", "more", "(II)I"⟩, 39), (⟨"SwapCallsModel", "isKnown", "(I)Z"⟩, 39), (⟨"SwapCallsModel", "causesOf", "(II)I"⟩, 39), (⟨"SwapCallsModel", "isCall", "(I)Z"⟩, 39), (⟨"SwapCallsModel", "effectOf", "(I)I"⟩, 39), (⟨"SwapCallsModel", "isFound", "()Z"⟩, 39), (⟨"SwapCallsModel", "isAllKnown", "()Z"⟩, 39), (⟨"SwapCallsModel", "findStages", "()V"⟩, 39), (⟨"SwapCallsModel", "isAhead", "(II)Z"⟩, 39)]
theorem lw_r3 : ∀ q ∈ lw_privs_3, lw_okq q := List.forall_mem_cons.mpr ⟨lw_p32, List.forall_mem_cons.mpr ⟨lw_p33, List.forall_mem_cons.mpr ⟨lw_p34, List.forall_mem_cons.mpr ⟨lw_p35, List.forall_mem_cons.mpr ⟨lw_p36, List.forall_mem_cons.mpr ⟨lw_p37, List.forall_mem_cons.mpr ⟨lw_p38, List.forall_mem_cons.mpr ⟨lw_p39, List.forall_mem_cons.mpr ⟨lw_p40, List.forall_mem_cons.mpr ⟨lw_p41, List.forall_mem_cons.mpr ⟨lw_p42, List.forall_mem_cons.mpr ⟨lw_p43, List.forall_mem_cons.mpr ⟨lw_p44, List.forall_mem_cons.mpr ⟨lw_p45, List.forall_mem_cons.mpr ⟨lw_p46, List.forall_mem_cons.mpr ⟨lw_p47, fun _ h => absurd h List.not_mem_nil⟩⟩⟩⟩⟩⟩⟩⟩⟩⟩⟩⟩⟩⟩⟩⟩
theorem lw_p48 : lw_okq (⟨"SwapCallsModel", "stageMany", "()I"⟩, 39) := ⟨⟨by decide +kernel, by decide +kernel⟩, List.mem_of_getElem? (i := 533) (by decide +kernel), List.mem_of_getElem? (i := 834) (by decide +kernel), List.mem_of_getElem? (i := 835) (by decide +kernel)⟩
theorem lw_p49 : lw_okq (⟨"SwapCallsModel", "widest", "()I"⟩, 39) := ⟨⟨by decide +kernel, by decide +kernel⟩, List.mem_of_getElem? (i := 533) (by decide +kernel), List.mem_of_getElem? (i := 838) (by decide +kernel), List.mem_of_getElem? (i := 839) (by decide +kernel)⟩
theorem lw_p50 : lw_okq (⟨"SwapCallsModel", "callsAt", "(I)I"⟩, 39) := ⟨⟨by decide +kernel, by decide +kernel⟩, List.mem_of_getElem? (i := 533) (by decide +kernel), List.mem_of_getElem? (i := 842) (by decide +kernel), List.mem_of_getElem? (i := 843) (by decide +kernel)⟩
theorem lw_p51 : lw_okq (⟨"SwapCallsModel", "freePairs", "()I"⟩, 39) := ⟨⟨by decide +kernel, by decide +kernel⟩, List.mem_of_getElem? (i := 533) (by decide +kernel), List.mem_of_getElem? (i := 850) (by decide +kernel), List.mem_of_getElem? (i := 851) (by decide +kernel)⟩
theorem lw_p52 : lw_okq (⟨"SwapCallsModel", "isNormal", "()I"⟩, 39) := ⟨⟨by decide +kernel, by decide +kernel⟩, List.mem_of_getElem? (i := 533) (by decide +kernel), List.mem_of_getElem? (i := 854) (by decide +kernel), List.mem_of_getElem? (i := 855) (by decide +kernel)⟩
theorem lw_p53 : lw_okq (⟨"SwapCallsModel", "compared", "()I"⟩, 39) := ⟨⟨by decide +kernel, by decide +kernel⟩, List.mem_of_getElem? (i := 533) (by decide +kernel), List.mem_of_getElem? (i := 858) (by decide +kernel), List.mem_of_getElem? (i := 859) (by decide +kernel)⟩
theorem lw_p54 : lw_okq (⟨"SwapCallsModel", "layNormal", "()V"⟩, 39) := ⟨⟨by decide +kernel, by decide +kernel⟩, List.mem_of_getElem? (i := 533) (by decide +kernel), List.mem_of_getElem? (i := 862) (by decide +kernel), List.mem_of_getElem? (i := 863) (by decide +kernel)⟩
theorem lw_p55 : lw_okq (⟨"SwapCallsModel", "hold", "()V"⟩, 39) := ⟨⟨by decide +kernel, by decide +kernel⟩, List.mem_of_getElem? (i := 533) (by decide +kernel), List.mem_of_getElem? (i := 866) (by decide +kernel), List.mem_of_getElem? (i := 867) (by decide +kernel)⟩
theorem lw_p56 : lw_okq (⟨"SwapCallsModel", "giveBack", "()V"⟩, 39) := ⟨⟨by decide +kernel, by decide +kernel⟩, List.mem_of_getElem? (i := 533) (by decide +kernel), List.mem_of_getElem? (i := 870) (by decide +kernel), List.mem_of_getElem? (i := 871) (by decide +kernel)⟩
theorem lw_p57 : lw_okq (⟨"SwapCallsModel", "isRun", "(I)Z"⟩, 39) := ⟨⟨by decide +kernel, by decide +kernel⟩, List.mem_of_getElem? (i := 533) (by decide +kernel), List.mem_of_getElem? (i := 880) (by decide +kernel), List.mem_of_getElem? (i := 881) (by decide +kernel)⟩
theorem lw_p58 : lw_okq (⟨"SwapCallsModel", "kth", "(II)I"⟩, 39) := ⟨⟨by decide +kernel, by decide +kernel⟩, List.mem_of_getElem? (i := 533) (by decide +kernel), List.mem_of_getElem? (i := 884) (by decide +kernel), List.mem_of_getElem? (i := 885) (by decide +kernel)⟩
theorem lw_p59 : lw_okq (⟨"SwapCallsModel", "doCall", "(I)I"⟩, 39) := ⟨⟨by decide +kernel, by decide +kernel⟩, List.mem_of_getElem? (i := 533) (by decide +kernel), List.mem_of_getElem? (i := 888) (by decide +kernel), List.mem_of_getElem? (i := 889) (by decide +kernel)⟩
theorem lw_p60 : lw_okq (⟨"SwapCallsModel", "push", "(II)V"⟩, 39) := ⟨⟨by decide +kernel, by decide +kernel⟩, List.mem_of_getElem? (i := 533) (by decide +kernel), List.mem_of_getElem? (i := 892) (by decide +kernel), List.mem_of_getElem? (i := 893) (by decide +kernel)⟩
theorem lw_p61 : lw_okq (⟨"SwapCallsModel", "isThrowing", "()Z"⟩, 39) := ⟨⟨by decide +kernel, by decide +kernel⟩, List.mem_of_getElem? (i := 533) (by decide +kernel), List.mem_of_getElem? (i := 896) (by decide +kernel), List.mem_of_getElem? (i := 897) (by decide +kernel)⟩
theorem lw_p62 : lw_okq (⟨"SwapCallsModel", "passAll", "()V"⟩, 39) := ⟨⟨by decide +kernel, by decide +kernel⟩, List.mem_of_getElem? (i := 533) (by decide +kernel), List.mem_of_getElem? (i := 912) (by decide +kernel), List.mem_of_getElem? (i := 913) (by decide +kernel)⟩
theorem lw_p63 : lw_okq (⟨"SwapCallsModel", "passRow", "([II)V"⟩, 39) := ⟨⟨by decide +kernel, by decide +kernel⟩, List.mem_of_getElem? (i := 533) (by decide +kernel), List.mem_of_getElem? (i := 916) (by decide +kernel), List.mem_of_getElem? (i := 917) (by decide +kernel)⟩
def lw_privs_4 : List (MethodName × Nat) := [(⟨"SwapCallsModel", "stageMany", "()I"⟩, 39), (⟨"SwapCallsModel", "widest", "()I"⟩, 39), (⟨"SwapCallsModel", "callsAt", "(I)I"⟩, 39), (⟨"SwapCallsModel", "freePairs", "()I"⟩, 39), (⟨"SwapCallsModel", "isNormal", "()I"⟩, 39), (⟨"SwapCallsModel", "compared", "()I"⟩, 39), (⟨"SwapCallsModel", "layNormal", "()V"⟩, 39), (⟨"SwapCallsModel", "hold", "()V"⟩, 39), (⟨"SwapCallsModel", "giveBack", "()V"⟩, 39), (⟨"SwapCallsModel", "isRun", "(I)Z"⟩, 39), (⟨"SwapCallsModel", "kth", "(II)I"⟩, 39), (⟨"SwapCallsModel", "doCall", "(I)I"⟩, 39), (⟨"SwapCallsModel", "push", "(II)V"⟩, 39), (⟨"SwapCallsModel", "isThrowing", "()Z"⟩, 39), (⟨"SwapCallsModel", "passAll", "()V"⟩, 39), (⟨"SwapCallsModel", "passRow", "([II)V"⟩, 39)]
theorem lw_r4 : ∀ q ∈ lw_privs_4, lw_okq q := List.forall_mem_cons.mpr ⟨lw_p48, List.forall_mem_cons.mpr ⟨lw_p49, List.forall_mem_cons.mpr ⟨lw_p50, List.forall_mem_cons.mpr ⟨lw_p51, List.forall_mem_cons.mpr ⟨lw_p52, List.forall_mem_cons.mpr ⟨lw_p53, List.forall_mem_cons.mpr ⟨lw_p54, List.forall_mem_cons.mpr ⟨lw_p55, List.forall_mem_cons.mpr ⟨lw_p56, List.forall_mem_cons.mpr ⟨lw_p57, List.forall_mem_cons.mpr ⟨lw_p58, List.forall_mem_cons.mpr ⟨lw_p59, List.forall_mem_cons.mpr ⟨lw_p60, List.forall_mem_cons.mpr ⟨lw_p61, List.forall_mem_cons.mpr ⟨lw_p62, List.forall_mem_cons.mpr ⟨lw_p63, fun _ h => absurd h List.not_mem_nil⟩⟩⟩⟩⟩⟩⟩⟩⟩⟩⟩⟩⟩⟩⟩⟩
theorem lw_p64 : lw_okq (⟨"SwapCallsModel", "statementsOf", "(I)I"⟩, 39) := ⟨⟨by decide +kernel, by decide +kernel⟩, List.mem_of_getElem? (i := 533) (by decide +kernel), List.mem_of_getElem? (i := 930) (by decide +kernel), List.mem_of_getElem? (i := 931) (by decide +kernel)⟩
def lw_privs_5 : List (MethodName × Nat) := [(⟨"SwapCallsModel", "statementsOf", "(I)I"⟩, 39)]
theorem lw_r5 : ∀ q ∈ lw_privs_5, lw_okq q := List.forall_mem_cons.mpr ⟨lw_p64, fun _ h => absurd h List.not_mem_nil⟩
def lw_privs : List (MethodName × Nat) := lw_privs_1 ++ (lw_privs_2 ++ (lw_privs_3 ++ (lw_privs_4 ++ (lw_privs_5))))
def lw_tbl : List Cond := k2_sels lw_privs ++ tables_1
theorem lw_privs_ok : ∀ q ∈ lw_privs, lw_okq q := by
  show ∀ q ∈ lw_privs_1 ++ (lw_privs_2 ++ (lw_privs_3 ++ (lw_privs_4 ++ (lw_privs_5)))), lw_okq q
  exact List.forall_mem_append.mpr ⟨lw_r1, List.forall_mem_append.mpr ⟨lw_r2, List.forall_mem_append.mpr ⟨lw_r3, List.forall_mem_append.mpr ⟨lw_r4, lw_r5⟩⟩⟩⟩
end
section
def RX0 : String := "SwapCalls$Effects"
def TX0 : u_T := fun k => match k with
  | 0 => ("SwapCalls$Effects", "reads", "[I", true)
  | 1 => ("SwapCalls$Effects", "writes", "[I", true)
  | 2 => ("SwapCalls$Effects", "adds", "[I", true)
  | 3 => ("SwapCalls$Effects", "mayThrow", "[I", true)
  | 4 => ("SwapCalls$Effects", "known", "[Z", true)
  | _ => ("SwapCalls$Effects", "found", "Z", false)
def tyX0 : Nat → FieldType := fun k => match k with
  | 0 => .array .int
  | 1 => .array .int
  | 2 => .array .int
  | 3 => .array .int
  | 4 => .array .boolean
  | _ => .boolean
theorem nmX0 : ∀ a, a < 6 → ∀ b, b < 6 → a ≠ b → (TX0 a).2.1 ≠ (TX0 b).2.1 := by decide +kernel
theorem tyX0_ok : ∀ k, k < 6 → parseFieldDescriptor (TX0 k).2.2.1 = some (tyX0 k) := by decide +kernel
abbrev cX0_init : ByteArray := prog_2_method_1_code
def yX0_init : MethodName := ⟨RX0, "<init>", "()V"⟩
abbrev cX0_forget : ByteArray := prog_2_method_2_code
def yX0_forget : MethodName := ⟨RX0, "forget", "()V"⟩
abbrev cX0_find : ByteArray := prog_2_method_3_code
def yX0_find : MethodName := ⟨RX0, "find", "([LSwapCalls$Routine;)V"⟩
abbrev cX0_knowsAll : ByteArray := prog_2_method_4_code
def yX0_knowsAll : MethodName := ⟨RX0, "knowsAll", "(LSwapCalls$Program;)Z"⟩
abbrev cX0_part : ByteArray := prog_2_method_5_code
def yX0_part : MethodName := ⟨RX0, "part", "(III)I"⟩
abbrev cX0_between : ByteArray := prog_2_method_6_code
def yX0_between : MethodName := ⟨RX0, "between", "(IIII)I"⟩
abbrev cX0_free : ByteArray := prog_2_method_7_code
def yX0_free : MethodName := ⟨RX0, "free", "(LSwapCalls$Program;II)Z"⟩
abbrev cX0_findKnown : ByteArray := prog_2_method_8_code
def yX0_findKnown : MethodName := ⟨RX0, "findKnown", "([LSwapCalls$Routine;)V"⟩
abbrev cX0_knowsBits : ByteArray := prog_2_method_9_code
def yX0_knowsBits : MethodName := ⟨RX0, "knowsBits", "(I)Z"⟩
abbrev cX0_startWithOwn : ByteArray := prog_2_method_10_code
def yX0_startWithOwn : MethodName := ⟨RX0, "startWithOwn", "(LSwapCalls$Routine;II)V"⟩
abbrev cX0_goRound : ByteArray := prog_2_method_11_code
def yX0_goRound : MethodName := ⟨RX0, "goRound", "([LSwapCalls$Routine;)Z"⟩
abbrev cX0_takeFromCallees : ByteArray := prog_2_method_12_code
def yX0_takeFromCallees : MethodName := ⟨RX0, "takeFromCallees", "(LSwapCalls$Routine;II)Z"⟩
abbrev cX0_take : ByteArray := prog_2_method_13_code
def yX0_take : MethodName := ⟨RX0, "take", "(II)Z"⟩
def RX1 : String := "SwapCalls$Image"
def TX1 : u_T := fun k => match k with
  | 0 => ("SwapCalls$Image", "places", "[I", true)
  | 1 => ("SwapCalls$Image", "program", "LSwapCalls$Program;", true)
  | _ => ("SwapCalls$Image", "kept", "Z", false)
def tyX1 : Nat → FieldType := fun k => match k with
  | 0 => .array .int
  | 1 => .object "SwapCalls$Program"
  | _ => .boolean
theorem nmX1 : ∀ a, a < 3 → ∀ b, b < 3 → a ≠ b → (TX1 a).2.1 ≠ (TX1 b).2.1 := by decide +kernel
theorem tyX1_ok : ∀ k, k < 3 → parseFieldDescriptor (TX1 k).2.2.1 = some (tyX1 k) := by decide +kernel
abbrev cX1_init : ByteArray := prog_3_method_1_code
def yX1_init : MethodName := ⟨RX1, "<init>", "()V"⟩
abbrev cX1_keep : ByteArray := prog_3_method_2_code
def yX1_keep : MethodName := ⟨RX1, "keep", "([ILSwapCalls$Program;)V"⟩
def RX2 : String := "SwapCalls$Layout"
def TX2 : u_T := fun k => match k with
  | 0 => ("SwapCalls$Layout", "laid", "LSwapCalls$Program;", true)
  | 1 => ("SwapCalls$Layout", "stage", "[I", true)
  | 2 => ("SwapCalls$Layout", "rank", "[I", true)
  | 3 => ("SwapCalls$Layout", "order", "[I", true)
  | 4 => ("SwapCalls$Layout", "stageCount", "I", false)
  | _ => ("SwapCalls$Layout", "freePairs", "I", false)
def tyX2 : Nat → FieldType := fun k => match k with
  | 0 => .object "SwapCalls$Program"
  | 1 => .array .int
  | 2 => .array .int
  | 3 => .array .int
  | 4 => .int
  | _ => .int
theorem nmX2 : ∀ a, a < 6 → ∀ b, b < 6 → a ≠ b → (TX2 a).2.1 ≠ (TX2 b).2.1 := by decide +kernel
theorem tyX2_ok : ∀ k, k < 6 → parseFieldDescriptor (TX2 k).2.2.1 = some (tyX2 k) := by decide +kernel
abbrev cX2_init : ByteArray := prog_4_method_1_code
def yX2_init : MethodName := ⟨RX2, "<init>", "()V"⟩
abbrev cX2_lay : ByteArray := prog_4_method_2_code
def yX2_lay : MethodName := ⟨RX2, "lay", "(LSwapCalls$Program;LSwapCalls$Effects;)V"⟩
abbrev cX2_arrange : ByteArray := prog_4_method_3_code
def yX2_arrange : MethodName := ⟨RX2, "arrange", "(I)V"⟩
abbrev cX2_mostOfOneStage : ByteArray := prog_4_method_4_code
def yX2_mostOfOneStage : MethodName := ⟨RX2, "mostOfOneStage", "()I"⟩
abbrev cX2_firstFullestStage : ByteArray := prog_4_method_5_code
def yX2_firstFullestStage : MethodName := ⟨RX2, "firstFullestStage", "()I"⟩
abbrev cX2_isNormal : ByteArray := prog_4_method_6_code
def yX2_isNormal : MethodName := ⟨RX2, "isNormal", "()Z"⟩
abbrev cX2_sameNormalForm : ByteArray := prog_4_method_7_code
def yX2_sameNormalForm : MethodName := ⟨RX2, "sameNormalForm", "(LSwapCalls$Layout;)Z"⟩
abbrev cX2_sizeOfStage : ByteArray := prog_4_method_8_code
def yX2_sizeOfStage : MethodName := ⟨RX2, "sizeOfStage", "(I)I"⟩
abbrev cX2_position : ByteArray := prog_4_method_9_code
def yX2_position : MethodName := ⟨RX2, "position", "(II)I"⟩
abbrev cX2_goesAhead : ByteArray := prog_4_method_10_code
def yX2_goesAhead : MethodName := ⟨RX2, "goesAhead", "(III)Z"⟩
def RX3 : String := "SwapCalls$Machine"
def TX3 : u_T := fun k => match k with
  | 0 => ("SwapCalls$Machine", "holds", "[I", true)
  | 1 => ("SwapCalls$Machine", "throwers", "[I", true)
  | 2 => ("SwapCalls$Machine", "throwCount", "I", false)
  | 3 => ("SwapCalls$Machine", "allSteps", "I", false)
  | _ => ("SwapCalls$Machine", "steps", "I", false)
def tyX3 : Nat → FieldType := fun k => match k with
  | 0 => .array .int
  | 1 => .array .int
  | 2 => .int
  | 3 => .int
  | _ => .int
theorem nmX3 : ∀ a, a < 5 → ∀ b, b < 5 → a ≠ b → (TX3 a).2.1 ≠ (TX3 b).2.1 := by decide +kernel
theorem tyX3_ok : ∀ k, k < 5 → parseFieldDescriptor (TX3 k).2.2.1 = some (tyX3 k) := by decide +kernel
abbrev cX3_init : ByteArray := prog_5_method_1_code
def yX3_init : MethodName := ⟨RX3, "<init>", "()V"⟩
abbrev cX3_perform : ByteArray := prog_5_method_2_code
def yX3_perform : MethodName := ⟨RX3, "perform", "([LSwapCalls$Routine;LSwapCalls$Program;[I[I)Z"⟩
abbrev cX3_doRoutine : ByteArray := prog_5_method_3_code
def yX3_doRoutine : MethodName := ⟨RX3, "doRoutine", "([LSwapCalls$Routine;III)I"⟩
abbrev cX3_doSimple : ByteArray := prog_5_method_4_code
def yX3_doSimple : MethodName := ⟨RX3, "doSimple", "(LSwapCalls$Routine;III)I"⟩
abbrev cX3_sumOfLeaves : ByteArray := prog_5_method_5_code
def yX3_sumOfLeaves : MethodName := ⟨RX3, "sumOfLeaves", "(LSwapCalls$Routine;II)I"⟩
def RX4 : String := "SwapCalls$Program"
def TX4 : u_T := fun k => match k with
  | 0 => ("SwapCalls$Program", "routine", "[I", true)
  | 1 => ("SwapCalls$Program", "given", "[I", true)
  | _ => ("SwapCalls$Program", "size", "I", false)
def tyX4 : Nat → FieldType := fun k => match k with
  | 0 => .array .int
  | 1 => .array .int
  | _ => .int
theorem nmX4 : ∀ a, a < 3 → ∀ b, b < 3 → a ≠ b → (TX4 a).2.1 ≠ (TX4 b).2.1 := by decide +kernel
theorem tyX4_ok : ∀ k, k < 3 → parseFieldDescriptor (TX4 k).2.2.1 = some (tyX4 k) := by decide +kernel
abbrev cX4_init : ByteArray := prog_6_method_1_code
def yX4_init : MethodName := ⟨RX4, "<init>", "()V"⟩
abbrev cX4_append : ByteArray := prog_6_method_2_code
def yX4_append : MethodName := ⟨RX4, "append", "(II)V"⟩
abbrev cX4_remove : ByteArray := prog_6_method_3_code
def yX4_remove : MethodName := ⟨RX4, "remove", "(I)V"⟩
abbrev cX4_exchangeWithNext : ByteArray := prog_6_method_4_code
def yX4_exchangeWithNext : MethodName := ⟨RX4, "exchangeWithNext", "(I)V"⟩
abbrev cX4_copyFrom : ByteArray := prog_6_method_5_code
def yX4_copyFrom : MethodName := ⟨RX4, "copyFrom", "(LSwapCalls$Program;)V"⟩
def RX5 : String := "SwapCalls$Routine"
def TX5 : u_T := fun k => match k with
  | 0 => ("SwapCalls$Routine", "signs", "[I", true)
  | 1 => ("SwapCalls$Routine", "length", "I", false)
  | 2 => ("SwapCalls$Routine", "faultAt", "I", false)
  | 3 => ("SwapCalls$Routine", "kind", "[I", true)
  | 4 => ("SwapCalls$Routine", "spot", "[I", true)
  | 5 => ("SwapCalls$Routine", "callee", "[I", true)
  | 6 => ("SwapCalls$Routine", "leafEnd", "[I", true)
  | 7 => ("SwapCalls$Routine", "statements", "I", false)
  | 8 => ("SwapCalls$Routine", "leafKind", "[I", true)
  | 9 => ("SwapCalls$Routine", "leafValue", "[I", true)
  | 10 => ("SwapCalls$Routine", "leaves", "I", false)
  | _ => ("SwapCalls$Routine", "at", "I", false)
def tyX5 : Nat → FieldType := fun k => match k with
  | 0 => .array .int
  | 1 => .int
  | 2 => .int
  | 3 => .array .int
  | 4 => .array .int
  | 5 => .array .int
  | 6 => .array .int
  | 7 => .int
  | 8 => .array .int
  | 9 => .array .int
  | 10 => .int
  | _ => .int
theorem nmX5 : ∀ a, a < 12 → ∀ b, b < 12 → a ≠ b → (TX5 a).2.1 ≠ (TX5 b).2.1 := by decide +kernel
theorem tyX5_ok : ∀ k, k < 12 → parseFieldDescriptor (TX5 k).2.2.1 = some (tyX5 k) := by decide +kernel
abbrev cX5_init : ByteArray := prog_7_method_1_code
def yX5_init : MethodName := ⟨RX5, "<init>", "()V"⟩
abbrev cX5_append : ByteArray := prog_7_method_2_code
def yX5_append : MethodName := ⟨RX5, "append", "(I)V"⟩
abbrev cX5_empty : ByteArray := prog_7_method_3_code
def yX5_empty : MethodName := ⟨RX5, "empty", "()V"⟩
abbrev cX5_calleeBits : ByteArray := prog_7_method_4_code
def yX5_calleeBits : MethodName := ⟨RX5, "calleeBits", "()I"⟩
abbrev cX5_leafStart : ByteArray := prog_7_method_5_code
def yX5_leafStart : MethodName := ⟨RX5, "leafStart", "(I)I"⟩
abbrev cX5_readText : ByteArray := prog_7_method_6_code
def yX5_readText : MethodName := ⟨RX5, "readText", "()V"⟩
abbrev cX5_readStatement : ByteArray := prog_7_method_7_code
def yX5_readStatement : MethodName := ⟨RX5, "readStatement", "(I)Z"⟩
abbrev cX5_kindOf : ByteArray := prog_7_method_8_code
def yX5_kindOf : MethodName := ⟨RX5, "kindOf", "(I)I"⟩
abbrev cX5_readCallee : ByteArray := prog_7_method_9_code
def yX5_readCallee : MethodName := ⟨RX5, "readCallee", "(I)Z"⟩
abbrev cX5_readLetter : ByteArray := prog_7_method_10_code
def yX5_readLetter : MethodName := ⟨RX5, "readLetter", "()I"⟩
abbrev cX5_readIndex : ByteArray := prog_7_method_11_code
def yX5_readIndex : MethodName := ⟨RX5, "readIndex", "()I"⟩
abbrev cX5_readTerm : ByteArray := prog_7_method_12_code
def yX5_readTerm : MethodName := ⟨RX5, "readTerm", "()Z"⟩
abbrev cX5_readLeaf : ByteArray := prog_7_method_13_code
def yX5_readLeaf : MethodName := ⟨RX5, "readLeaf", "()Z"⟩
abbrev cX5_addLeaf : ByteArray := prog_7_method_14_code
def yX5_addLeaf : MethodName := ⟨RX5, "addLeaf", "(II)Z"⟩
abbrev cX5_isFigure : ByteArray := prog_7_method_15_code
def yX5_isFigure : MethodName := ⟨RX5, "isFigure", "(I)Z"⟩
abbrev cX5_isLetter : ByteArray := prog_7_method_16_code
def yX5_isLetter : MethodName := ⟨RX5, "isLetter", "(I)Z"⟩
def RX6 : String := "SwapCalls"
def TX6 : u_T := fun k => match k with
  | 0 => ("SwapCalls", "routines", "[LSwapCalls$Routine;", true)
  | 1 => ("SwapCalls", "effects", "LSwapCalls$Effects;", true)
  | 2 => ("SwapCalls", "places", "[I", true)
  | 3 => ("SwapCalls", "program", "LSwapCalls$Program;", true)
  | 4 => ("SwapCalls", "images", "[LSwapCalls$Image;", true)
  | 5 => ("SwapCalls", "layout", "LSwapCalls$Layout;", true)
  | 6 => ("SwapCalls", "otherLayout", "LSwapCalls$Layout;", true)
  | _ => ("SwapCalls", "machine", "LSwapCalls$Machine;", true)
def tyX6 : Nat → FieldType := fun k => match k with
  | 0 => .array (.object "SwapCalls$Routine")
  | 1 => .object "SwapCalls$Effects"
  | 2 => .array .int
  | 3 => .object "SwapCalls$Program"
  | 4 => .array (.object "SwapCalls$Image")
  | 5 => .object "SwapCalls$Layout"
  | 6 => .object "SwapCalls$Layout"
  | _ => .object "SwapCalls$Machine"
theorem nmX6 : ∀ a, a < 8 → ∀ b, b < 8 → a ≠ b → (TX6 a).2.1 ≠ (TX6 b).2.1 := by decide +kernel
theorem tyX6_ok : ∀ k, k < 8 → parseFieldDescriptor (TX6 k).2.2.1 = some (tyX6 k) := by decide +kernel
abbrev cX6_init : ByteArray := prog_1_method_1_code
def yX6_init : MethodName := ⟨RX6, "<init>", "()V"⟩
abbrev cX6_say : ByteArray := prog_1_method_2_code
def yX6_say : MethodName := ⟨RX6, "say", "(II)I"⟩
abbrev cX6_wipe : ByteArray := prog_1_method_3_code
def yX6_wipe : MethodName := ⟨RX6, "wipe", "(I)I"⟩
abbrev cX6_fault : ByteArray := prog_1_method_4_code
def yX6_fault : MethodName := ⟨RX6, "fault", "(I)I"⟩
abbrev cX6_set : ByteArray := prog_1_method_5_code
def yX6_set : MethodName := ⟨RX6, "set", "(II)I"⟩
abbrev cX6_get : ByteArray := prog_1_method_6_code
def yX6_get : MethodName := ⟨RX6, "get", "(I)I"⟩
abbrev cX6_effect : ByteArray := prog_1_method_7_code
def yX6_effect : MethodName := ⟨RX6, "effect", "(III)I"⟩
abbrev cX6_causes : ByteArray := prog_1_method_8_code
def yX6_causes : MethodName := ⟨RX6, "causes", "(IIII)I"⟩
abbrev cX6_call : ByteArray := prog_1_method_9_code
def yX6_call : MethodName := ⟨RX6, "call", "(II)I"⟩
abbrev cX6_drop : ByteArray := prog_1_method_10_code
def yX6_drop : MethodName := ⟨RX6, "drop", "(I)I"⟩
abbrev cX6_swap : ByteArray := prog_1_method_11_code
def yX6_swap : MethodName := ⟨RX6, "swap", "(I)I"⟩
abbrev cX6_told : ByteArray := prog_1_method_12_code
def yX6_told : MethodName := ⟨RX6, "told", "(II)I"⟩
abbrev cX6_stages : ByteArray := prog_1_method_13_code
def yX6_stages : MethodName := ⟨RX6, "stages", "(I)I"⟩
abbrev cX6_run : ByteArray := prog_1_method_14_code
def yX6_run : MethodName := ⟨RX6, "run", "(II)I"⟩
abbrev cX6_thrower : ByteArray := prog_1_method_15_code
def yX6_thrower : MethodName := ⟨RX6, "thrower", "(II)I"⟩
abbrev cX6_commit : ByteArray := prog_1_method_16_code
def yX6_commit : MethodName := ⟨RX6, "commit", "()I"⟩
abbrev cX6_image : ByteArray := prog_1_method_17_code
def yX6_image : MethodName := ⟨RX6, "image", "(I)I"⟩
abbrev cX6_restore : ByteArray := prog_1_method_18_code
def yX6_restore : MethodName := ⟨RX6, "restore", "(I)I"⟩
abbrev cX6_count : ByteArray := prog_1_method_19_code
def yX6_count : MethodName := ⟨RX6, "count", "(I)I"⟩
abbrev cX6_within : ByteArray := prog_1_method_20_code
def yX6_within : MethodName := ⟨RX6, "within", "(II)Z"⟩
abbrev cX6_placeOf : ByteArray := prog_1_method_21_code
def yX6_placeOf : MethodName := ⟨RX6, "placeOf", "(II)I"⟩
abbrev cX6_layProgram : ByteArray := prog_1_method_22_code
def yX6_layProgram : MethodName := ⟨RX6, "layProgram", "()Z"⟩
abbrev cX6_perform : ByteArray := prog_1_method_23_code
def yX6_perform : MethodName := ⟨RX6, "perform", "(I)Z"⟩
abbrev cX6_compareWithImage : ByteArray := prog_1_method_24_code
def yX6_compareWithImage : MethodName := ⟨RX6, "compareWithImage", "(LSwapCalls$Program;)I"⟩
abbrev cX6_nearestSingle : ByteArray := prog_1_method_25_code
def yX6_nearestSingle : MethodName := ⟨RX6, "nearestSingle", "(II)I"⟩
def RX7 : String := "SwapCallsModel"
def TX7 : u_T := fun k => match k with
  | 0 => ("SwapCallsModel", "text", "[I", true)
  | 1 => ("SwapCallsModel", "textMany", "[I", true)
  | 2 => ("SwapCallsModel", "places", "[I", true)
  | 3 => ("SwapCallsModel", "callOf", "[I", true)
  | 4 => ("SwapCallsModel", "callGiven", "[I", true)
  | 5 => ("SwapCallsModel", "calls", "I", false)
  | 6 => ("SwapCallsModel", "at", "I", false)
  | 7 => ("SwapCallsModel", "in", "I", false)
  | 8 => ("SwapCallsModel", "sum", "I", false)
  | 9 => ("SwapCallsModel", "reading", "I", false)
  | 10 => ("SwapCallsModel", "kind", "I", false)
  | 11 => ("SwapCallsModel", "place", "I", false)
  | 12 => ("SwapCallsModel", "called", "I", false)
  | 13 => ("SwapCallsModel", "given", "I", false)
  | 14 => ("SwapCallsModel", "reads", "[I", true)
  | 15 => ("SwapCallsModel", "writes", "[I", true)
  | 16 => ("SwapCallsModel", "adds", "[I", true)
  | 17 => ("SwapCallsModel", "throwing", "[I", true)
  | 18 => ("SwapCallsModel", "reaches", "[I", true)
  | 19 => ("SwapCallsModel", "now", "[I", true)
  | 20 => ("SwapCallsModel", "change", "Z", false)
  | 21 => ("SwapCallsModel", "stage", "[I", true)
  | 22 => ("SwapCallsModel", "rank", "[I", true)
  | 23 => ("SwapCallsModel", "normal", "[I", true)
  | 24 => ("SwapCallsModel", "heldOf", "[I", true)
  | 25 => ("SwapCallsModel", "heldGiven", "[I", true)
  | 26 => ("SwapCallsModel", "heldMany", "I", false)
  | 27 => ("SwapCallsModel", "pileIn", "[I", true)
  | 28 => ("SwapCallsModel", "pileAt", "[I", true)
  | 29 => ("SwapCallsModel", "pileGiven", "[I", true)
  | 30 => ("SwapCallsModel", "piled", "I", false)
  | 31 => ("SwapCallsModel", "steps", "I", false)
  | 32 => ("SwapCallsModel", "threw", "[I", true)
  | 33 => ("SwapCallsModel", "threwMany", "I", false)
  | 34 => ("SwapCallsModel", "allSteps", "I", false)
  | 35 => ("SwapCallsModel", "kept", "[I", true)
  | 36 => ("SwapCallsModel", "isKept", "[Z", true)
  | 37 => ("SwapCallsModel", "keptAt", "I", false)
  | _ => ("SwapCallsModel", "isWriting", "Z", false)
def tyX7 : Nat → FieldType := fun k => match k with
  | 0 => .array .int
  | 1 => .array .int
  | 2 => .array .int
  | 3 => .array .int
  | 4 => .array .int
  | 5 => .int
  | 6 => .int
  | 7 => .int
  | 8 => .int
  | 9 => .int
  | 10 => .int
  | 11 => .int
  | 12 => .int
  | 13 => .int
  | 14 => .array .int
  | 15 => .array .int
  | 16 => .array .int
  | 17 => .array .int
  | 18 => .array .int
  | 19 => .array .int
  | 20 => .boolean
  | 21 => .array .int
  | 22 => .array .int
  | 23 => .array .int
  | 24 => .array .int
  | 25 => .array .int
  | 26 => .int
  | 27 => .array .int
  | 28 => .array .int
  | 29 => .array .int
  | 30 => .int
  | 31 => .int
  | 32 => .array .int
  | 33 => .int
  | 34 => .int
  | 35 => .array .int
  | 36 => .array .boolean
  | 37 => .int
  | _ => .boolean
theorem nmX7 : ∀ a, a < 39 → ∀ b, b < 39 → a ≠ b → (TX7 a).2.1 ≠ (TX7 b).2.1 := by decide +kernel
theorem tyX7_ok : ∀ k, k < 39 → parseFieldDescriptor (TX7 k).2.2.1 = some (tyX7 k) := by decide +kernel
abbrev cX7_init : ByteArray := prog_9_method_1_code
def yX7_init : MethodName := ⟨RX7, "<init>", "()V"⟩
abbrev cX7_in : ByteArray := prog_9_method_3_code
def yX7_in : MethodName := ⟨RX7, "in", "(JJJ)Z"⟩
abbrev cX7_isRoutine : ByteArray := prog_9_method_4_code
def yX7_isRoutine : MethodName := ⟨RX7, "isRoutine", "(I)Z"⟩
abbrev cX7_isGiven : ByteArray := prog_9_method_5_code
def yX7_isGiven : MethodName := ⟨RX7, "isGiven", "(I)Z"⟩
abbrev cX7_isPlace : ByteArray := prog_9_method_6_code
def yX7_isPlace : MethodName := ⟨RX7, "isPlace", "(I)Z"⟩
abbrev cX7_say : ByteArray := prog_9_method_7_code
def yX7_say : MethodName := ⟨RX7, "say", "(II)I"⟩
abbrev cX7_wipe : ByteArray := prog_9_method_8_code
def yX7_wipe : MethodName := ⟨RX7, "wipe", "(I)I"⟩
abbrev cX7_here : ByteArray := prog_9_method_9_code
def yX7_here : MethodName := ⟨RX7, "here", "()I"⟩
abbrev cX7_isFigure : ByteArray := prog_9_method_10_code
def yX7_isFigure : MethodName := ⟨RX7, "isFigure", "(I)Z"⟩
abbrev cX7_isLetter : ByteArray := prog_9_method_11_code
def yX7_isLetter : MethodName := ⟨RX7, "isLetter", "(I)Z"⟩
abbrev cX7_index : ByteArray := prog_9_method_12_code
def yX7_index : MethodName := ⟨RX7, "index", "(I)I"⟩
abbrev cX7_leaf : ByteArray := prog_9_method_13_code
def yX7_leaf : MethodName := ⟨RX7, "leaf", "(I)Z"⟩
abbrev cX7_term : ByteArray := prog_9_method_14_code
def yX7_term : MethodName := ⟨RX7, "term", "(I)Z"⟩
abbrev cX7_numberHere : ByteArray := prog_9_method_15_code
def yX7_numberHere : MethodName := ⟨RX7, "numberHere", "()Z"⟩
abbrev cX7_cellHere : ByteArray := prog_9_method_16_code
def yX7_cellHere : MethodName := ⟨RX7, "cellHere", "(I)Z"⟩
abbrev cX7_callHere : ByteArray := prog_9_method_17_code
def yX7_callHere : MethodName := ⟨RX7, "callHere", "(I)Z"⟩
abbrev cX7_statement : ByteArray := prog_9_method_18_code
def yX7_statement : MethodName := ⟨RX7, "statement", "(I)Z"⟩
abbrev cX7_begin : ByteArray := prog_9_method_19_code
def yX7_begin : MethodName := ⟨RX7, "begin", "(I)V"⟩
abbrev cX7_isMore : ByteArray := prog_9_method_20_code
def yX7_isMore : MethodName := ⟨RX7, "isMore", "()Z"⟩
abbrev cX7_faultOf : ByteArray := prog_9_method_21_code
def yX7_faultOf : MethodName := ⟨RX7, "faultOf", "(I)I"⟩
abbrev cX7_fault : ByteArray := prog_9_method_22_code
def yX7_fault : MethodName := ⟨RX7, "fault", "(I)I"⟩
abbrev cX7_set : ByteArray := prog_9_method_23_code
def yX7_set : MethodName := ⟨RX7, "set", "(II)I"⟩
abbrev cX7_get : ByteArray := prog_9_method_24_code
def yX7_get : MethodName := ⟨RX7, "get", "(I)I"⟩
abbrev cX7_callsOf : ByteArray := prog_9_method_25_code
def yX7_callsOf : MethodName := ⟨RX7, "callsOf", "(I)I"⟩
abbrev cX7_findReaches : ByteArray := prog_9_method_26_code
def yX7_findReaches : MethodName := ⟨RX7, "findReaches", "()V"⟩
abbrev cX7_isKnown : ByteArray := prog_9_method_27_code
def yX7_isKnown : MethodName := ⟨RX7, "isKnown", "(I)Z"⟩
abbrev cX7_more : ByteArray := prog_9_method_28_code
def yX7_more : MethodName := ⟨RX7, "more", "(II)I"⟩
abbrev cX7_takeIn : ByteArray := prog_9_method_29_code
def yX7_takeIn : MethodName := ⟨RX7, "takeIn", "(IIIII)V"⟩
abbrev cX7_addEffects : ByteArray := prog_9_method_30_code
def yX7_addEffects : MethodName := ⟨RX7, "addEffects", "(II)V"⟩
abbrev cX7_findEffects : ByteArray := prog_9_method_31_code
def yX7_findEffects : MethodName := ⟨RX7, "findEffects", "()V"⟩
abbrev cX7_effect : ByteArray := prog_9_method_32_code
def yX7_effect : MethodName := ⟨RX7, "effect", "(III)I"⟩
abbrev cX7_causesOf : ByteArray := prog_9_method_33_code
def yX7_causesOf : MethodName := ⟨RX7, "causesOf", "(II)I"⟩
abbrev cX7_causes : ByteArray := prog_9_method_34_code
def yX7_causes : MethodName := ⟨RX7, "causes", "(IIII)I"⟩
abbrev cX7_call : ByteArray := prog_9_method_35_code
def yX7_call : MethodName := ⟨RX7, "call", "(II)I"⟩
abbrev cX7_isCall : ByteArray := prog_9_method_36_code
def yX7_isCall : MethodName := ⟨RX7, "isCall", "(I)Z"⟩
abbrev cX7_drop : ByteArray := prog_9_method_37_code
def yX7_drop : MethodName := ⟨RX7, "drop", "(I)I"⟩
abbrev cX7_effectOf : ByteArray := prog_9_method_38_code
def yX7_effectOf : MethodName := ⟨RX7, "effectOf", "(I)I"⟩
abbrev cX7_turn : ByteArray := prog_9_method_39_code
def yX7_turn : MethodName := ⟨RX7, "turn", "([II)V"⟩
abbrev cX7_swap : ByteArray := prog_9_method_40_code
def yX7_swap : MethodName := ⟨RX7, "swap", "(I)I"⟩
abbrev cX7_isAllKnown : ByteArray := prog_9_method_41_code
def yX7_isAllKnown : MethodName := ⟨RX7, "isAllKnown", "()Z"⟩
abbrev cX7_isAhead : ByteArray := prog_9_method_42_code
def yX7_isAhead : MethodName := ⟨RX7, "isAhead", "(II)Z"⟩
abbrev cX7_findStages : ByteArray := prog_9_method_43_code
def yX7_findStages : MethodName := ⟨RX7, "findStages", "()V"⟩
abbrev cX7_isFound : ByteArray := prog_9_method_44_code
def yX7_isFound : MethodName := ⟨RX7, "isFound", "()Z"⟩
abbrev cX7_told : ByteArray := prog_9_method_45_code
def yX7_told : MethodName := ⟨RX7, "told", "(II)I"⟩
abbrev cX7_stageMany : ByteArray := prog_9_method_46_code
def yX7_stageMany : MethodName := ⟨RX7, "stageMany", "()I"⟩
abbrev cX7_callsAt : ByteArray := prog_9_method_47_code
def yX7_callsAt : MethodName := ⟨RX7, "callsAt", "(I)I"⟩
abbrev cX7_widest : ByteArray := prog_9_method_48_code
def yX7_widest : MethodName := ⟨RX7, "widest", "()I"⟩
abbrev cX7_single : ByteArray := prog_9_method_49_code
def yX7_single : MethodName := ⟨RX7, "single", "(II)I"⟩
abbrev cX7_freePairs : ByteArray := prog_9_method_50_code
def yX7_freePairs : MethodName := ⟨RX7, "freePairs", "()I"⟩
abbrev cX7_isNormal : ByteArray := prog_9_method_51_code
def yX7_isNormal : MethodName := ⟨RX7, "isNormal", "()I"⟩
abbrev cX7_layNormal : ByteArray := prog_9_method_52_code
def yX7_layNormal : MethodName := ⟨RX7, "layNormal", "()V"⟩
abbrev cX7_hold : ByteArray := prog_9_method_53_code
def yX7_hold : MethodName := ⟨RX7, "hold", "()V"⟩
abbrev cX7_giveBack : ByteArray := prog_9_method_54_code
def yX7_giveBack : MethodName := ⟨RX7, "giveBack", "()V"⟩
abbrev cX7_compared : ByteArray := prog_9_method_55_code
def yX7_compared : MethodName := ⟨RX7, "compared", "()I"⟩
abbrev cX7_stages : ByteArray := prog_9_method_56_code
def yX7_stages : MethodName := ⟨RX7, "stages", "(I)I"⟩
abbrev cX7_push : ByteArray := prog_9_method_57_code
def yX7_push : MethodName := ⟨RX7, "push", "(II)V"⟩
abbrev cX7_isThrowing : ByteArray := prog_9_method_58_code
def yX7_isThrowing : MethodName := ⟨RX7, "isThrowing", "()Z"⟩
abbrev cX7_doCall : ByteArray := prog_9_method_59_code
def yX7_doCall : MethodName := ⟨RX7, "doCall", "(I)I"⟩
abbrev cX7_kth : ByteArray := prog_9_method_60_code
def yX7_kth : MethodName := ⟨RX7, "kth", "(II)I"⟩
abbrev cX7_isRun : ByteArray := prog_9_method_61_code
def yX7_isRun : MethodName := ⟨RX7, "isRun", "(I)Z"⟩
abbrev cX7_run : ByteArray := prog_9_method_62_code
def yX7_run : MethodName := ⟨RX7, "run", "(II)I"⟩
abbrev cX7_thrower : ByteArray := prog_9_method_63_code
def yX7_thrower : MethodName := ⟨RX7, "thrower", "(II)I"⟩
abbrev cX7_commit : ByteArray := prog_9_method_64_code
def yX7_commit : MethodName := ⟨RX7, "commit", "()I"⟩
abbrev cX7_passRow : ByteArray := prog_9_method_65_code
def yX7_passRow : MethodName := ⟨RX7, "passRow", "([II)V"⟩
abbrev cX7_passAll : ByteArray := prog_9_method_66_code
def yX7_passAll : MethodName := ⟨RX7, "passAll", "()V"⟩
abbrev cX7_image : ByteArray := prog_9_method_67_code
def yX7_image : MethodName := ⟨RX7, "image", "(I)I"⟩
abbrev cX7_restore : ByteArray := prog_9_method_68_code
def yX7_restore : MethodName := ⟨RX7, "restore", "(I)I"⟩
abbrev cX7_statementsOf : ByteArray := prog_9_method_69_code
def yX7_statementsOf : MethodName := ⟨RX7, "statementsOf", "(I)I"⟩
abbrev cX7_count : ByteArray := prog_9_method_70_code
def yX7_count : MethodName := ⟨RX7, "count", "(I)I"⟩
def RJ9 : String := "java/lang/Math"
def TJ9 : u_T := fun k => match k with
  | _ => ("", "", "", false)
def tyJ9 : Nat → FieldType := fun k => match k with
  | _ => .int
abbrev cJ9_floorMod_7cf53 : ByteArray := prog_10_method_50_code
def yJ9_floorMod_7cf53 : MethodName := ⟨RJ9, "floorMod", "(II)I"⟩
abbrev cJ9_max_7cf53 : ByteArray := prog_10_method_65_code
def yJ9_max_7cf53 : MethodName := ⟨RJ9, "max", "(II)I"⟩
def RJ10 : String := "java/lang/System"
def TJ10 : u_T := fun k => match k with
  | _ => ("", "", "", false)
def tyJ10 : Nat → FieldType := fun k => match k with
  | _ => .int
def RL : String := "SwapCallsLaw"
abbrev cL_law : ByteArray := code
def yL_law : MethodName := ⟨RL, "law", "([I)Z"⟩
abbrev vwCl : List vw_C := [(RX0, TX0, 6), (RX1, TX1, 3), (RX2, TX2, 6), (RX3, TX3, 5), (RX4, TX4, 3), (RX5, TX5, 12), (RX6, TX6, 8), (RX7, TX7, 39)]
end
section
theorem dX0_init_0 : decode cX0_init 0 = .ok (.aload_n 0, 1) := by decide +kernel
theorem dX0_init_1 : decode cX0_init 1 = .ok (.invokespecial 3, 3) := by decide +kernel
theorem dX0_init_4 : decode cX0_init 4 = .ok (.aload_n 0, 1) := by decide +kernel
theorem dX0_init_5 : decode cX0_init 5 = .ok (.bipush 72, 2) := by decide +kernel
theorem dX0_init_7 : decode cX0_init 7 = .ok (.newarray .int, 2) := by decide +kernel
theorem dX0_init_9 : decode cX0_init 9 = .ok (.putfield 11, 3) := by decide +kernel
theorem dX0_init_12 : decode cX0_init 12 = .ok (.aload_n 0, 1) := by decide +kernel
theorem dX0_init_13 : decode cX0_init 13 = .ok (.bipush 72, 2) := by decide +kernel
theorem dX0_init_15 : decode cX0_init 15 = .ok (.newarray .int, 2) := by decide +kernel
theorem dX0_init_17 : decode cX0_init 17 = .ok (.putfield 15, 3) := by decide +kernel
theorem dX0_init_20 : decode cX0_init 20 = .ok (.aload_n 0, 1) := by decide +kernel
theorem dX0_init_21 : decode cX0_init 21 = .ok (.bipush 72, 2) := by decide +kernel
theorem dX0_init_23 : decode cX0_init 23 = .ok (.newarray .int, 2) := by decide +kernel
theorem dX0_init_25 : decode cX0_init 25 = .ok (.putfield 18, 3) := by decide +kernel
theorem dX0_init_28 : decode cX0_init 28 = .ok (.aload_n 0, 1) := by decide +kernel
theorem dX0_init_29 : decode cX0_init 29 = .ok (.bipush 72, 2) := by decide +kernel
theorem dX0_init_31 : decode cX0_init 31 = .ok (.newarray .int, 2) := by decide +kernel
theorem dX0_init_33 : decode cX0_init 33 = .ok (.putfield 21, 3) := by decide +kernel
theorem dX0_init_36 : decode cX0_init 36 = .ok (.aload_n 0, 1) := by decide +kernel
theorem dX0_init_37 : decode cX0_init 37 = .ok (.bipush 6, 2) := by decide +kernel
theorem dX0_init_39 : decode cX0_init 39 = .ok (.newarray .boolean, 2) := by decide +kernel
theorem dX0_init_41 : decode cX0_init 41 = .ok (.putfield 24, 3) := by decide +kernel
theorem dX0_init_44 : decode cX0_init 44 = .ok (.aload_n 0, 1) := by decide +kernel
theorem dX0_init_45 : decode cX0_init 45 = .ok (.iconst 0, 1) := by decide +kernel
theorem dX0_init_46 : decode cX0_init 46 = .ok (.putfield 28, 3) := by decide +kernel
theorem dX0_init_49 : decode cX0_init 49 = .ok (.return_, 1) := by decide +kernel
theorem dX0_forget_0 : decode cX0_forget 0 = .ok (.aload_n 0, 1) := by decide +kernel
theorem dX0_forget_1 : decode cX0_forget 1 = .ok (.iconst 0, 1) := by decide +kernel
theorem dX0_forget_2 : decode cX0_forget 2 = .ok (.putfield 28, 3) := by decide +kernel
theorem dX0_forget_5 : decode cX0_forget 5 = .ok (.return_, 1) := by decide +kernel
theorem dX0_find_0 : decode cX0_find 0 = .ok (.aload_n 0, 1) := by decide +kernel
theorem dX0_find_1 : decode cX0_find 1 = .ok (.getfield 28, 3) := by decide +kernel
theorem dX0_find_4 : decode cX0_find 4 = .ok (.ifCond .eq 4, 3) := by decide +kernel
theorem dX0_find_7 : decode cX0_find 7 = .ok (.return_, 1) := by decide +kernel
theorem dX0_find_8 : decode cX0_find 8 = .ok (.aload_n 0, 1) := by decide +kernel
theorem dX0_find_9 : decode cX0_find 9 = .ok (.aload_n 1, 1) := by decide +kernel
theorem dX0_find_10 : decode cX0_find 10 = .ok (.invokevirtual 32, 3) := by decide +kernel
theorem dX0_find_13 : decode cX0_find 13 = .ok (.iconst 0, 1) := by decide +kernel
theorem dX0_find_14 : decode cX0_find 14 = .ok (.istore_n 2, 1) := by decide +kernel
theorem dX0_find_15 : decode cX0_find 15 = .ok (.iload_n 2, 1) := by decide +kernel
theorem dX0_find_16 : decode cX0_find 16 = .ok (.bipush 6, 2) := by decide +kernel
theorem dX0_find_18 : decode cX0_find 18 = .ok (.if_icmp .ge 32, 3) := by decide +kernel
theorem dX0_find_21 : decode cX0_find 21 = .ok (.iconst 0, 1) := by decide +kernel
theorem dX0_find_22 : decode cX0_find 22 = .ok (.istore_n 3, 1) := by decide +kernel
theorem dX0_find_23 : decode cX0_find 23 = .ok (.iload_n 3, 1) := by decide +kernel
theorem dX0_find_24 : decode cX0_find 24 = .ok (.bipush 12, 2) := by decide +kernel
theorem dX0_find_26 : decode cX0_find 26 = .ok (.if_icmp .ge 18, 3) := by decide +kernel
theorem dX0_find_29 : decode cX0_find 29 = .ok (.aload_n 0, 1) := by decide +kernel
theorem dX0_find_30 : decode cX0_find 30 = .ok (.aload_n 1, 1) := by decide +kernel
theorem dX0_find_31 : decode cX0_find 31 = .ok (.iload_n 2, 1) := by decide +kernel
theorem dX0_find_32 : decode cX0_find 32 = .ok (.aaload, 1) := by decide +kernel
theorem dX0_find_33 : decode cX0_find 33 = .ok (.iload_n 2, 1) := by decide +kernel
theorem dX0_find_34 : decode cX0_find 34 = .ok (.iload_n 3, 1) := by decide +kernel
theorem dX0_find_35 : decode cX0_find 35 = .ok (.invokevirtual 36, 3) := by decide +kernel
theorem dX0_find_38 : decode cX0_find 38 = .ok (.iinc 3 1, 3) := by decide +kernel
theorem dX0_find_41 : decode cX0_find 41 = .ok (.goto (-18), 3) := by decide +kernel
theorem dX0_find_44 : decode cX0_find 44 = .ok (.iinc 2 1, 3) := by decide +kernel
theorem dX0_find_47 : decode cX0_find 47 = .ok (.goto (-32), 3) := by decide +kernel
theorem dX0_find_50 : decode cX0_find 50 = .ok (.iconst 1, 1) := by decide +kernel
theorem dX0_find_51 : decode cX0_find 51 = .ok (.istore_n 2, 1) := by decide +kernel
theorem dX0_find_52 : decode cX0_find 52 = .ok (.iconst 0, 1) := by decide +kernel
theorem dX0_find_53 : decode cX0_find 53 = .ok (.istore_n 3, 1) := by decide +kernel
theorem dX0_find_54 : decode cX0_find 54 = .ok (.iload_n 3, 1) := by decide +kernel
theorem dX0_find_55 : decode cX0_find 55 = .ok (.sipush 3961, 3) := by decide +kernel
theorem dX0_find_58 : decode cX0_find 58 = .ok (.if_icmp .ge 19, 3) := by decide +kernel
theorem dX0_find_61 : decode cX0_find 61 = .ok (.iload_n 2, 1) := by decide +kernel
theorem dX0_find_62 : decode cX0_find 62 = .ok (.ifCond .eq 15, 3) := by decide +kernel
theorem dX0_find_65 : decode cX0_find 65 = .ok (.aload_n 0, 1) := by decide +kernel
theorem dX0_find_66 : decode cX0_find 66 = .ok (.aload_n 1, 1) := by decide +kernel
theorem dX0_find_67 : decode cX0_find 67 = .ok (.invokevirtual 40, 3) := by decide +kernel
theorem dX0_find_70 : decode cX0_find 70 = .ok (.istore_n 2, 1) := by decide +kernel
theorem dX0_find_71 : decode cX0_find 71 = .ok (.iinc 3 1, 3) := by decide +kernel
theorem dX0_find_74 : decode cX0_find 74 = .ok (.goto (-20), 3) := by decide +kernel
theorem dX0_find_77 : decode cX0_find 77 = .ok (.aload_n 0, 1) := by decide +kernel
theorem dX0_find_78 : decode cX0_find 78 = .ok (.iconst 1, 1) := by decide +kernel
theorem dX0_find_79 : decode cX0_find 79 = .ok (.putfield 28, 3) := by decide +kernel
theorem dX0_find_82 : decode cX0_find 82 = .ok (.return_, 1) := by decide +kernel
theorem dX0_knowsAll_0 : decode cX0_knowsAll 0 = .ok (.iconst 0, 1) := by decide +kernel
theorem dX0_knowsAll_1 : decode cX0_knowsAll 1 = .ok (.istore_n 2, 1) := by decide +kernel
theorem dX0_knowsAll_2 : decode cX0_knowsAll 2 = .ok (.iload_n 2, 1) := by decide +kernel
theorem dX0_knowsAll_3 : decode cX0_knowsAll 3 = .ok (.aload_n 1, 1) := by decide +kernel
theorem dX0_knowsAll_4 : decode cX0_knowsAll 4 = .ok (.getfield 44, 3) := by decide +kernel
theorem dX0_knowsAll_7 : decode cX0_knowsAll 7 = .ok (.if_icmp .ge 25, 3) := by decide +kernel
theorem dX0_knowsAll_10 : decode cX0_knowsAll 10 = .ok (.aload_n 0, 1) := by decide +kernel
theorem dX0_knowsAll_11 : decode cX0_knowsAll 11 = .ok (.getfield 24, 3) := by decide +kernel
theorem dX0_knowsAll_14 : decode cX0_knowsAll 14 = .ok (.aload_n 1, 1) := by decide +kernel
theorem dX0_knowsAll_15 : decode cX0_knowsAll 15 = .ok (.getfield 50, 3) := by decide +kernel
theorem dX0_knowsAll_18 : decode cX0_knowsAll 18 = .ok (.iload_n 2, 1) := by decide +kernel
theorem dX0_knowsAll_19 : decode cX0_knowsAll 19 = .ok (.iaload, 1) := by decide +kernel
theorem dX0_knowsAll_20 : decode cX0_knowsAll 20 = .ok (.baload, 1) := by decide +kernel
theorem dX0_knowsAll_21 : decode cX0_knowsAll 21 = .ok (.ifCond .ne 5, 3) := by decide +kernel
theorem dX0_knowsAll_24 : decode cX0_knowsAll 24 = .ok (.iconst 0, 1) := by decide +kernel
theorem dX0_knowsAll_25 : decode cX0_knowsAll 25 = .ok (.ireturn, 1) := by decide +kernel
theorem dX0_knowsAll_26 : decode cX0_knowsAll 26 = .ok (.iinc 2 1, 3) := by decide +kernel
theorem dX0_knowsAll_29 : decode cX0_knowsAll 29 = .ok (.goto (-27), 3) := by decide +kernel
theorem dX0_knowsAll_32 : decode cX0_knowsAll 32 = .ok (.iconst 1, 1) := by decide +kernel
theorem dX0_knowsAll_33 : decode cX0_knowsAll 33 = .ok (.ireturn, 1) := by decide +kernel
theorem dX0_part_0 : decode cX0_part 0 = .ok (.iload_n 1, 1) := by decide +kernel
theorem dX0_part_1 : decode cX0_part 1 = .ok (.bipush 12, 2) := by decide +kernel
theorem dX0_part_3 : decode cX0_part 3 = .ok (.imul, 1) := by decide +kernel
theorem dX0_part_4 : decode cX0_part 4 = .ok (.iload_n 2, 1) := by decide +kernel
theorem dX0_part_5 : decode cX0_part 5 = .ok (.iadd, 1) := by decide +kernel
theorem dX0_part_6 : decode cX0_part 6 = .ok (.istore 4, 2) := by decide +kernel
theorem dX0_part_8 : decode cX0_part 8 = .ok (.iload_n 3, 1) := by decide +kernel
theorem dX0_part_9 : decode cX0_part 9 = .ok (.tableswitch 63 0 3 #[31, 39, 47, 55], 31) := by decide +kernel
theorem dX0_part_40 : decode cX0_part 40 = .ok (.aload_n 0, 1) := by decide +kernel
theorem dX0_part_41 : decode cX0_part 41 = .ok (.getfield 11, 3) := by decide +kernel
theorem dX0_part_44 : decode cX0_part 44 = .ok (.iload 4, 2) := by decide +kernel
theorem dX0_part_46 : decode cX0_part 46 = .ok (.iaload, 1) := by decide +kernel
theorem dX0_part_47 : decode cX0_part 47 = .ok (.ireturn, 1) := by decide +kernel
theorem dX0_part_48 : decode cX0_part 48 = .ok (.aload_n 0, 1) := by decide +kernel
theorem dX0_part_49 : decode cX0_part 49 = .ok (.getfield 15, 3) := by decide +kernel
theorem dX0_part_52 : decode cX0_part 52 = .ok (.iload 4, 2) := by decide +kernel
theorem dX0_part_54 : decode cX0_part 54 = .ok (.iaload, 1) := by decide +kernel
theorem dX0_part_55 : decode cX0_part 55 = .ok (.ireturn, 1) := by decide +kernel
theorem dX0_part_56 : decode cX0_part 56 = .ok (.aload_n 0, 1) := by decide +kernel
theorem dX0_part_57 : decode cX0_part 57 = .ok (.getfield 18, 3) := by decide +kernel
theorem dX0_part_60 : decode cX0_part 60 = .ok (.iload 4, 2) := by decide +kernel
theorem dX0_part_62 : decode cX0_part 62 = .ok (.iaload, 1) := by decide +kernel
theorem dX0_part_63 : decode cX0_part 63 = .ok (.ireturn, 1) := by decide +kernel
theorem dX0_part_64 : decode cX0_part 64 = .ok (.aload_n 0, 1) := by decide +kernel
theorem dX0_part_65 : decode cX0_part 65 = .ok (.getfield 21, 3) := by decide +kernel
theorem dX0_part_68 : decode cX0_part 68 = .ok (.iload 4, 2) := by decide +kernel
theorem dX0_part_70 : decode cX0_part 70 = .ok (.iaload, 1) := by decide +kernel
theorem dX0_part_71 : decode cX0_part 71 = .ok (.ireturn, 1) := by decide +kernel
theorem dX0_part_72 : decode cX0_part 72 = .ok (.iconst 0, 1) := by decide +kernel
theorem dX0_part_73 : decode cX0_part 73 = .ok (.ireturn, 1) := by decide +kernel
theorem dX0_between_0 : decode cX0_between 0 = .ok (.iload_n 1, 1) := by decide +kernel
theorem dX0_between_1 : decode cX0_between 1 = .ok (.bipush 12, 2) := by decide +kernel
theorem dX0_between_3 : decode cX0_between 3 = .ok (.imul, 1) := by decide +kernel
theorem dX0_between_4 : decode cX0_between 4 = .ok (.iload_n 2, 1) := by decide +kernel
theorem dX0_between_5 : decode cX0_between 5 = .ok (.iadd, 1) := by decide +kernel
theorem dX0_between_6 : decode cX0_between 6 = .ok (.istore 5, 2) := by decide +kernel
theorem dX0_between_8 : decode cX0_between 8 = .ok (.iload_n 3, 1) := by decide +kernel
theorem dX0_between_9 : decode cX0_between 9 = .ok (.bipush 12, 2) := by decide +kernel
theorem dX0_between_11 : decode cX0_between 11 = .ok (.imul, 1) := by decide +kernel
theorem dX0_between_12 : decode cX0_between 12 = .ok (.iload 4, 2) := by decide +kernel
theorem dX0_between_14 : decode cX0_between 14 = .ok (.iadd, 1) := by decide +kernel
theorem dX0_between_15 : decode cX0_between 15 = .ok (.istore 6, 2) := by decide +kernel
theorem dX0_between_17 : decode cX0_between 17 = .ok (.aload_n 0, 1) := by decide +kernel
theorem dX0_between_18 : decode cX0_between 18 = .ok (.getfield 15, 3) := by decide +kernel
theorem dX0_between_21 : decode cX0_between 21 = .ok (.iload 5, 2) := by decide +kernel
theorem dX0_between_23 : decode cX0_between 23 = .ok (.iaload, 1) := by decide +kernel
theorem dX0_between_24 : decode cX0_between 24 = .ok (.aload_n 0, 1) := by decide +kernel
theorem dX0_between_25 : decode cX0_between 25 = .ok (.getfield 18, 3) := by decide +kernel
theorem dX0_between_28 : decode cX0_between 28 = .ok (.iload 5, 2) := by decide +kernel
theorem dX0_between_30 : decode cX0_between 30 = .ok (.iaload, 1) := by decide +kernel
theorem dX0_between_31 : decode cX0_between 31 = .ok (.ior, 1) := by decide +kernel
theorem dX0_between_32 : decode cX0_between 32 = .ok (.istore 7, 2) := by decide +kernel
theorem dX0_between_34 : decode cX0_between 34 = .ok (.aload_n 0, 1) := by decide +kernel
theorem dX0_between_35 : decode cX0_between 35 = .ok (.getfield 15, 3) := by decide +kernel
theorem dX0_between_38 : decode cX0_between 38 = .ok (.iload 6, 2) := by decide +kernel
theorem dX0_between_40 : decode cX0_between 40 = .ok (.iaload, 1) := by decide +kernel
theorem dX0_between_41 : decode cX0_between 41 = .ok (.aload_n 0, 1) := by decide +kernel
theorem dX0_between_42 : decode cX0_between 42 = .ok (.getfield 18, 3) := by decide +kernel
theorem dX0_between_45 : decode cX0_between 45 = .ok (.iload 6, 2) := by decide +kernel
theorem dX0_between_47 : decode cX0_between 47 = .ok (.iaload, 1) := by decide +kernel
theorem dX0_between_48 : decode cX0_between 48 = .ok (.ior, 1) := by decide +kernel
theorem dX0_between_49 : decode cX0_between 49 = .ok (.istore 8, 2) := by decide +kernel
theorem dX0_between_51 : decode cX0_between 51 = .ok (.iconst 0, 1) := by decide +kernel
theorem dX0_between_52 : decode cX0_between 52 = .ok (.istore 9, 2) := by decide +kernel
theorem dX0_between_54 : decode cX0_between 54 = .ok (.aload_n 0, 1) := by decide +kernel
theorem dX0_between_55 : decode cX0_between 55 = .ok (.getfield 15, 3) := by decide +kernel
theorem dX0_between_58 : decode cX0_between 58 = .ok (.iload 5, 2) := by decide +kernel
theorem dX0_between_60 : decode cX0_between 60 = .ok (.iaload, 1) := by decide +kernel
theorem dX0_between_61 : decode cX0_between 61 = .ok (.iload 8, 2) := by decide +kernel
theorem dX0_between_63 : decode cX0_between 63 = .ok (.iand, 1) := by decide +kernel
theorem dX0_between_64 : decode cX0_between 64 = .ok (.aload_n 0, 1) := by decide +kernel
theorem dX0_between_65 : decode cX0_between 65 = .ok (.getfield 15, 3) := by decide +kernel
theorem dX0_between_68 : decode cX0_between 68 = .ok (.iload 6, 2) := by decide +kernel
theorem dX0_between_70 : decode cX0_between 70 = .ok (.iaload, 1) := by decide +kernel
theorem dX0_between_71 : decode cX0_between 71 = .ok (.iload 7, 2) := by decide +kernel
theorem dX0_between_73 : decode cX0_between 73 = .ok (.iand, 1) := by decide +kernel
theorem dX0_between_74 : decode cX0_between 74 = .ok (.ior, 1) := by decide +kernel
theorem dX0_between_75 : decode cX0_between 75 = .ok (.ifCond .eq 9, 3) := by decide +kernel
theorem dX0_between_78 : decode cX0_between 78 = .ok (.iload 9, 2) := by decide +kernel
theorem dX0_between_80 : decode cX0_between 80 = .ok (.iconst 1, 1) := by decide +kernel
theorem dX0_between_81 : decode cX0_between 81 = .ok (.ior, 1) := by decide +kernel
theorem dX0_between_82 : decode cX0_between 82 = .ok (.istore 9, 2) := by decide +kernel
theorem dX0_between_84 : decode cX0_between 84 = .ok (.aload_n 0, 1) := by decide +kernel
theorem dX0_between_85 : decode cX0_between 85 = .ok (.getfield 11, 3) := by decide +kernel
theorem dX0_between_88 : decode cX0_between 88 = .ok (.iload 5, 2) := by decide +kernel
theorem dX0_between_90 : decode cX0_between 90 = .ok (.iaload, 1) := by decide +kernel
theorem dX0_between_91 : decode cX0_between 91 = .ok (.iload 8, 2) := by decide +kernel
theorem dX0_between_93 : decode cX0_between 93 = .ok (.iand, 1) := by decide +kernel
theorem dX0_between_94 : decode cX0_between 94 = .ok (.aload_n 0, 1) := by decide +kernel
theorem dX0_between_95 : decode cX0_between 95 = .ok (.getfield 11, 3) := by decide +kernel
theorem dX0_between_98 : decode cX0_between 98 = .ok (.iload 6, 2) := by decide +kernel
theorem dX0_between_100 : decode cX0_between 100 = .ok (.iaload, 1) := by decide +kernel
theorem dX0_between_101 : decode cX0_between 101 = .ok (.iload 7, 2) := by decide +kernel
theorem dX0_between_103 : decode cX0_between 103 = .ok (.iand, 1) := by decide +kernel
theorem dX0_between_104 : decode cX0_between 104 = .ok (.ior, 1) := by decide +kernel
theorem dX0_between_105 : decode cX0_between 105 = .ok (.ifCond .eq 9, 3) := by decide +kernel
theorem dX0_between_108 : decode cX0_between 108 = .ok (.iload 9, 2) := by decide +kernel
theorem dX0_between_110 : decode cX0_between 110 = .ok (.iconst 2, 1) := by decide +kernel
theorem dX0_between_111 : decode cX0_between 111 = .ok (.ior, 1) := by decide +kernel
theorem dX0_between_112 : decode cX0_between 112 = .ok (.istore 9, 2) := by decide +kernel
theorem dX0_between_114 : decode cX0_between 114 = .ok (.aload_n 0, 1) := by decide +kernel
theorem dX0_between_115 : decode cX0_between 115 = .ok (.getfield 21, 3) := by decide +kernel
theorem dX0_between_118 : decode cX0_between 118 = .ok (.iload 5, 2) := by decide +kernel
theorem dX0_between_120 : decode cX0_between 120 = .ok (.iaload, 1) := by decide +kernel
theorem dX0_between_121 : decode cX0_between 121 = .ok (.iconst 1, 1) := by decide +kernel
theorem dX0_between_122 : decode cX0_between 122 = .ok (.if_icmp .ne 20, 3) := by decide +kernel
theorem dX0_between_125 : decode cX0_between 125 = .ok (.aload_n 0, 1) := by decide +kernel
theorem dX0_between_126 : decode cX0_between 126 = .ok (.getfield 21, 3) := by decide +kernel
theorem dX0_between_129 : decode cX0_between 129 = .ok (.iload 6, 2) := by decide +kernel
theorem dX0_between_131 : decode cX0_between 131 = .ok (.iaload, 1) := by decide +kernel
theorem dX0_between_132 : decode cX0_between 132 = .ok (.iconst 1, 1) := by decide +kernel
theorem dX0_between_133 : decode cX0_between 133 = .ok (.if_icmp .ne 9, 3) := by decide +kernel
theorem dX0_between_136 : decode cX0_between 136 = .ok (.iload 9, 2) := by decide +kernel
theorem dX0_between_138 : decode cX0_between 138 = .ok (.iconst 4, 1) := by decide +kernel
theorem dX0_between_139 : decode cX0_between 139 = .ok (.ior, 1) := by decide +kernel
theorem dX0_between_140 : decode cX0_between 140 = .ok (.istore 9, 2) := by decide +kernel
theorem dX0_between_142 : decode cX0_between 142 = .ok (.iload 9, 2) := by decide +kernel
theorem dX0_between_144 : decode cX0_between 144 = .ok (.ireturn, 1) := by decide +kernel
theorem dX0_free_0 : decode cX0_free 0 = .ok (.aload_n 0, 1) := by decide +kernel
theorem dX0_free_1 : decode cX0_free 1 = .ok (.aload_n 1, 1) := by decide +kernel
theorem dX0_free_2 : decode cX0_free 2 = .ok (.getfield 50, 3) := by decide +kernel
theorem dX0_free_5 : decode cX0_free 5 = .ok (.iload_n 2, 1) := by decide +kernel
theorem dX0_free_6 : decode cX0_free 6 = .ok (.iaload, 1) := by decide +kernel
theorem dX0_free_7 : decode cX0_free 7 = .ok (.aload_n 1, 1) := by decide +kernel
theorem dX0_free_8 : decode cX0_free 8 = .ok (.getfield 53, 3) := by decide +kernel
theorem dX0_free_11 : decode cX0_free 11 = .ok (.iload_n 2, 1) := by decide +kernel
theorem dX0_free_12 : decode cX0_free 12 = .ok (.iaload, 1) := by decide +kernel
theorem dX0_free_13 : decode cX0_free 13 = .ok (.aload_n 1, 1) := by decide +kernel
theorem dX0_free_14 : decode cX0_free 14 = .ok (.getfield 50, 3) := by decide +kernel
theorem dX0_free_17 : decode cX0_free 17 = .ok (.iload_n 3, 1) := by decide +kernel
theorem dX0_free_18 : decode cX0_free 18 = .ok (.iaload, 1) := by decide +kernel
theorem dX0_free_19 : decode cX0_free 19 = .ok (.aload_n 1, 1) := by decide +kernel
theorem dX0_free_20 : decode cX0_free 20 = .ok (.getfield 53, 3) := by decide +kernel
theorem dX0_free_23 : decode cX0_free 23 = .ok (.iload_n 3, 1) := by decide +kernel
theorem dX0_free_24 : decode cX0_free 24 = .ok (.iaload, 1) := by decide +kernel
theorem dX0_free_25 : decode cX0_free 25 = .ok (.invokevirtual 56, 3) := by decide +kernel
theorem dX0_free_28 : decode cX0_free 28 = .ok (.ifCond .ne 7, 3) := by decide +kernel
theorem dX0_free_31 : decode cX0_free 31 = .ok (.iconst 1, 1) := by decide +kernel
theorem dX0_free_32 : decode cX0_free 32 = .ok (.goto 4, 3) := by decide +kernel
theorem dX0_free_35 : decode cX0_free 35 = .ok (.iconst 0, 1) := by decide +kernel
theorem dX0_free_36 : decode cX0_free 36 = .ok (.ireturn, 1) := by decide +kernel
theorem dX0_findKnown_0 : decode cX0_findKnown 0 = .ok (.iconst 0, 1) := by decide +kernel
theorem dX0_findKnown_1 : decode cX0_findKnown 1 = .ok (.istore_n 2, 1) := by decide +kernel
theorem dX0_findKnown_2 : decode cX0_findKnown 2 = .ok (.iload_n 2, 1) := by decide +kernel
theorem dX0_findKnown_3 : decode cX0_findKnown 3 = .ok (.bipush 6, 2) := by decide +kernel
theorem dX0_findKnown_5 : decode cX0_findKnown 5 = .ok (.if_icmp .ge 31, 3) := by decide +kernel
theorem dX0_findKnown_8 : decode cX0_findKnown 8 = .ok (.aload_n 0, 1) := by decide +kernel
theorem dX0_findKnown_9 : decode cX0_findKnown 9 = .ok (.getfield 24, 3) := by decide +kernel
theorem dX0_findKnown_12 : decode cX0_findKnown 12 = .ok (.iload_n 2, 1) := by decide +kernel
theorem dX0_findKnown_13 : decode cX0_findKnown 13 = .ok (.aload_n 1, 1) := by decide +kernel
theorem dX0_findKnown_14 : decode cX0_findKnown 14 = .ok (.iload_n 2, 1) := by decide +kernel
theorem dX0_findKnown_15 : decode cX0_findKnown 15 = .ok (.aaload, 1) := by decide +kernel
theorem dX0_findKnown_16 : decode cX0_findKnown 16 = .ok (.getfield 60, 3) := by decide +kernel
theorem dX0_findKnown_19 : decode cX0_findKnown 19 = .ok (.bipush (-6), 2) := by decide +kernel
theorem dX0_findKnown_21 : decode cX0_findKnown 21 = .ok (.if_icmp .ne 7, 3) := by decide +kernel
theorem dX0_findKnown_24 : decode cX0_findKnown 24 = .ok (.iconst 1, 1) := by decide +kernel
theorem dX0_findKnown_25 : decode cX0_findKnown 25 = .ok (.goto 4, 3) := by decide +kernel
theorem dX0_findKnown_28 : decode cX0_findKnown 28 = .ok (.iconst 0, 1) := by decide +kernel
theorem dX0_findKnown_29 : decode cX0_findKnown 29 = .ok (.bastore, 1) := by decide +kernel
theorem dX0_findKnown_30 : decode cX0_findKnown 30 = .ok (.iinc 2 1, 3) := by decide +kernel
theorem dX0_findKnown_33 : decode cX0_findKnown 33 = .ok (.goto (-31), 3) := by decide +kernel
theorem dX0_findKnown_36 : decode cX0_findKnown 36 = .ok (.iconst 0, 1) := by decide +kernel
theorem dX0_findKnown_37 : decode cX0_findKnown 37 = .ok (.istore_n 2, 1) := by decide +kernel
theorem dX0_findKnown_38 : decode cX0_findKnown 38 = .ok (.iload_n 2, 1) := by decide +kernel
theorem dX0_findKnown_39 : decode cX0_findKnown 39 = .ok (.bipush 6, 2) := by decide +kernel
theorem dX0_findKnown_41 : decode cX0_findKnown 41 = .ok (.if_icmp .ge 56, 3) := by decide +kernel
theorem dX0_findKnown_44 : decode cX0_findKnown 44 = .ok (.iconst 0, 1) := by decide +kernel
theorem dX0_findKnown_45 : decode cX0_findKnown 45 = .ok (.istore_n 3, 1) := by decide +kernel
theorem dX0_findKnown_46 : decode cX0_findKnown 46 = .ok (.iload_n 3, 1) := by decide +kernel
theorem dX0_findKnown_47 : decode cX0_findKnown 47 = .ok (.bipush 6, 2) := by decide +kernel
theorem dX0_findKnown_49 : decode cX0_findKnown 49 = .ok (.if_icmp .ge 42, 3) := by decide +kernel
theorem dX0_findKnown_52 : decode cX0_findKnown 52 = .ok (.aload_n 0, 1) := by decide +kernel
theorem dX0_findKnown_53 : decode cX0_findKnown 53 = .ok (.getfield 24, 3) := by decide +kernel
theorem dX0_findKnown_56 : decode cX0_findKnown 56 = .ok (.iload_n 3, 1) := by decide +kernel
theorem dX0_findKnown_57 : decode cX0_findKnown 57 = .ok (.aload_n 0, 1) := by decide +kernel
theorem dX0_findKnown_58 : decode cX0_findKnown 58 = .ok (.getfield 24, 3) := by decide +kernel
theorem dX0_findKnown_61 : decode cX0_findKnown 61 = .ok (.iload_n 3, 1) := by decide +kernel
theorem dX0_findKnown_62 : decode cX0_findKnown 62 = .ok (.baload, 1) := by decide +kernel
theorem dX0_findKnown_63 : decode cX0_findKnown 63 = .ok (.ifCond .eq 20, 3) := by decide +kernel
theorem dX0_findKnown_66 : decode cX0_findKnown 66 = .ok (.aload_n 0, 1) := by decide +kernel
theorem dX0_findKnown_67 : decode cX0_findKnown 67 = .ok (.aload_n 1, 1) := by decide +kernel
theorem dX0_findKnown_68 : decode cX0_findKnown 68 = .ok (.iload_n 3, 1) := by decide +kernel
theorem dX0_findKnown_69 : decode cX0_findKnown 69 = .ok (.aaload, 1) := by decide +kernel
theorem dX0_findKnown_70 : decode cX0_findKnown 70 = .ok (.invokevirtual 65, 3) := by decide +kernel
theorem dX0_findKnown_73 : decode cX0_findKnown 73 = .ok (.invokevirtual 69, 3) := by decide +kernel
theorem dX0_findKnown_76 : decode cX0_findKnown 76 = .ok (.ifCond .eq 7, 3) := by decide +kernel
theorem dX0_findKnown_79 : decode cX0_findKnown 79 = .ok (.iconst 1, 1) := by decide +kernel
theorem dX0_findKnown_80 : decode cX0_findKnown 80 = .ok (.goto 4, 3) := by decide +kernel
theorem dX0_findKnown_83 : decode cX0_findKnown 83 = .ok (.iconst 0, 1) := by decide +kernel
theorem dX0_findKnown_84 : decode cX0_findKnown 84 = .ok (.bastore, 1) := by decide +kernel
theorem dX0_findKnown_85 : decode cX0_findKnown 85 = .ok (.iinc 3 1, 3) := by decide +kernel
theorem dX0_findKnown_88 : decode cX0_findKnown 88 = .ok (.goto (-42), 3) := by decide +kernel
theorem dX0_findKnown_91 : decode cX0_findKnown 91 = .ok (.iinc 2 1, 3) := by decide +kernel
theorem dX0_findKnown_94 : decode cX0_findKnown 94 = .ok (.goto (-56), 3) := by decide +kernel
theorem dX0_findKnown_97 : decode cX0_findKnown 97 = .ok (.return_, 1) := by decide +kernel
theorem dX0_knowsBits_0 : decode cX0_knowsBits 0 = .ok (.iconst 0, 1) := by decide +kernel
theorem dX0_knowsBits_1 : decode cX0_knowsBits 1 = .ok (.istore_n 2, 1) := by decide +kernel
theorem dX0_knowsBits_2 : decode cX0_knowsBits 2 = .ok (.iload_n 2, 1) := by decide +kernel
theorem dX0_knowsBits_3 : decode cX0_knowsBits 3 = .ok (.bipush 6, 2) := by decide +kernel
theorem dX0_knowsBits_5 : decode cX0_knowsBits 5 = .ok (.if_icmp .ge 29, 3) := by decide +kernel
theorem dX0_knowsBits_8 : decode cX0_knowsBits 8 = .ok (.iload_n 1, 1) := by decide +kernel
theorem dX0_knowsBits_9 : decode cX0_knowsBits 9 = .ok (.iload_n 2, 1) := by decide +kernel
theorem dX0_knowsBits_10 : decode cX0_knowsBits 10 = .ok (.ishr, 1) := by decide +kernel
theorem dX0_knowsBits_11 : decode cX0_knowsBits 11 = .ok (.iconst 1, 1) := by decide +kernel
theorem dX0_knowsBits_12 : decode cX0_knowsBits 12 = .ok (.iand, 1) := by decide +kernel
theorem dX0_knowsBits_13 : decode cX0_knowsBits 13 = .ok (.iconst 1, 1) := by decide +kernel
theorem dX0_knowsBits_14 : decode cX0_knowsBits 14 = .ok (.if_icmp .ne 14, 3) := by decide +kernel
theorem dX0_knowsBits_17 : decode cX0_knowsBits 17 = .ok (.aload_n 0, 1) := by decide +kernel
theorem dX0_knowsBits_18 : decode cX0_knowsBits 18 = .ok (.getfield 24, 3) := by decide +kernel
theorem dX0_knowsBits_21 : decode cX0_knowsBits 21 = .ok (.iload_n 2, 1) := by decide +kernel
theorem dX0_knowsBits_22 : decode cX0_knowsBits 22 = .ok (.baload, 1) := by decide +kernel
theorem dX0_knowsBits_23 : decode cX0_knowsBits 23 = .ok (.ifCond .ne 5, 3) := by decide +kernel
theorem dX0_knowsBits_26 : decode cX0_knowsBits 26 = .ok (.iconst 0, 1) := by decide +kernel
theorem dX0_knowsBits_27 : decode cX0_knowsBits 27 = .ok (.ireturn, 1) := by decide +kernel
theorem dX0_knowsBits_28 : decode cX0_knowsBits 28 = .ok (.iinc 2 1, 3) := by decide +kernel
theorem dX0_knowsBits_31 : decode cX0_knowsBits 31 = .ok (.goto (-29), 3) := by decide +kernel
theorem dX0_knowsBits_34 : decode cX0_knowsBits 34 = .ok (.iconst 1, 1) := by decide +kernel
theorem dX0_knowsBits_35 : decode cX0_knowsBits 35 = .ok (.ireturn, 1) := by decide +kernel
theorem dX0_startWithOwn_0 : decode cX0_startWithOwn 0 = .ok (.iload_n 2, 1) := by decide +kernel
theorem dX0_startWithOwn_1 : decode cX0_startWithOwn 1 = .ok (.bipush 12, 2) := by decide +kernel
theorem dX0_startWithOwn_3 : decode cX0_startWithOwn 3 = .ok (.imul, 1) := by decide +kernel
theorem dX0_startWithOwn_4 : decode cX0_startWithOwn 4 = .ok (.iload_n 3, 1) := by decide +kernel
theorem dX0_startWithOwn_5 : decode cX0_startWithOwn 5 = .ok (.iadd, 1) := by decide +kernel
theorem dX0_startWithOwn_6 : decode cX0_startWithOwn 6 = .ok (.istore 4, 2) := by decide +kernel
theorem dX0_startWithOwn_8 : decode cX0_startWithOwn 8 = .ok (.aload_n 0, 1) := by decide +kernel
theorem dX0_startWithOwn_9 : decode cX0_startWithOwn 9 = .ok (.getfield 11, 3) := by decide +kernel
theorem dX0_startWithOwn_12 : decode cX0_startWithOwn 12 = .ok (.iload 4, 2) := by decide +kernel
theorem dX0_startWithOwn_14 : decode cX0_startWithOwn 14 = .ok (.iconst 0, 1) := by decide +kernel
theorem dX0_startWithOwn_15 : decode cX0_startWithOwn 15 = .ok (.iastore, 1) := by decide +kernel
theorem dX0_startWithOwn_16 : decode cX0_startWithOwn 16 = .ok (.aload_n 0, 1) := by decide +kernel
theorem dX0_startWithOwn_17 : decode cX0_startWithOwn 17 = .ok (.getfield 15, 3) := by decide +kernel
theorem dX0_startWithOwn_20 : decode cX0_startWithOwn 20 = .ok (.iload 4, 2) := by decide +kernel
theorem dX0_startWithOwn_22 : decode cX0_startWithOwn 22 = .ok (.iconst 0, 1) := by decide +kernel
theorem dX0_startWithOwn_23 : decode cX0_startWithOwn 23 = .ok (.iastore, 1) := by decide +kernel
theorem dX0_startWithOwn_24 : decode cX0_startWithOwn 24 = .ok (.aload_n 0, 1) := by decide +kernel
theorem dX0_startWithOwn_25 : decode cX0_startWithOwn 25 = .ok (.getfield 18, 3) := by decide +kernel
theorem dX0_startWithOwn_28 : decode cX0_startWithOwn 28 = .ok (.iload 4, 2) := by decide +kernel
theorem dX0_startWithOwn_30 : decode cX0_startWithOwn 30 = .ok (.iconst 0, 1) := by decide +kernel
theorem dX0_startWithOwn_31 : decode cX0_startWithOwn 31 = .ok (.iastore, 1) := by decide +kernel
theorem dX0_startWithOwn_32 : decode cX0_startWithOwn 32 = .ok (.aload_n 0, 1) := by decide +kernel
theorem dX0_startWithOwn_33 : decode cX0_startWithOwn 33 = .ok (.getfield 21, 3) := by decide +kernel
theorem dX0_startWithOwn_36 : decode cX0_startWithOwn 36 = .ok (.iload 4, 2) := by decide +kernel
theorem dX0_startWithOwn_38 : decode cX0_startWithOwn 38 = .ok (.iconst 0, 1) := by decide +kernel
theorem dX0_startWithOwn_39 : decode cX0_startWithOwn 39 = .ok (.iastore, 1) := by decide +kernel
theorem dX0_startWithOwn_40 : decode cX0_startWithOwn 40 = .ok (.aload_n 0, 1) := by decide +kernel
theorem dX0_startWithOwn_41 : decode cX0_startWithOwn 41 = .ok (.getfield 24, 3) := by decide +kernel
theorem dX0_startWithOwn_44 : decode cX0_startWithOwn 44 = .ok (.iload_n 2, 1) := by decide +kernel
theorem dX0_startWithOwn_45 : decode cX0_startWithOwn 45 = .ok (.baload, 1) := by decide +kernel
theorem dX0_startWithOwn_46 : decode cX0_startWithOwn 46 = .ok (.ifCond .ne 4, 3) := by decide +kernel
theorem dX0_startWithOwn_49 : decode cX0_startWithOwn 49 = .ok (.return_, 1) := by decide +kernel
theorem dX0_startWithOwn_50 : decode cX0_startWithOwn 50 = .ok (.iconst 0, 1) := by decide +kernel
theorem dX0_startWithOwn_51 : decode cX0_startWithOwn 51 = .ok (.istore 5, 2) := by decide +kernel
theorem dX0_startWithOwn_53 : decode cX0_startWithOwn 53 = .ok (.iload 5, 2) := by decide +kernel
theorem dX0_startWithOwn_55 : decode cX0_startWithOwn 55 = .ok (.aload_n 1, 1) := by decide +kernel
theorem dX0_startWithOwn_56 : decode cX0_startWithOwn 56 = .ok (.getfield 73, 3) := by decide +kernel
theorem dX0_startWithOwn_59 : decode cX0_startWithOwn 59 = .ok (.if_icmp .ge 112, 3) := by decide +kernel
theorem dX0_startWithOwn_62 : decode cX0_startWithOwn 62 = .ok (.iconst 1, 1) := by decide +kernel
theorem dX0_startWithOwn_63 : decode cX0_startWithOwn 63 = .ok (.aload_n 1, 1) := by decide +kernel
theorem dX0_startWithOwn_64 : decode cX0_startWithOwn 64 = .ok (.getfield 76, 3) := by decide +kernel
theorem dX0_startWithOwn_67 : decode cX0_startWithOwn 67 = .ok (.iload 5, 2) := by decide +kernel
theorem dX0_startWithOwn_69 : decode cX0_startWithOwn 69 = .ok (.iaload, 1) := by decide +kernel
theorem dX0_startWithOwn_70 : decode cX0_startWithOwn 70 = .ok (.iload_n 3, 1) := by decide +kernel
theorem dX0_startWithOwn_71 : decode cX0_startWithOwn 71 = .ok (.invokestatic 79, 3) := by decide +kernel
theorem dX0_startWithOwn_74 : decode cX0_startWithOwn 74 = .ok (.ishl, 1) := by decide +kernel
theorem dX0_startWithOwn_75 : decode cX0_startWithOwn 75 = .ok (.istore 6, 2) := by decide +kernel
theorem dX0_startWithOwn_77 : decode cX0_startWithOwn 77 = .ok (.aload_n 1, 1) := by decide +kernel
theorem dX0_startWithOwn_78 : decode cX0_startWithOwn 78 = .ok (.getfield 83, 3) := by decide +kernel
theorem dX0_startWithOwn_81 : decode cX0_startWithOwn 81 = .ok (.iload 5, 2) := by decide +kernel
theorem dX0_startWithOwn_83 : decode cX0_startWithOwn 83 = .ok (.iaload, 1) := by decide +kernel
theorem dX0_startWithOwn_84 : decode cX0_startWithOwn 84 = .ok (.tableswitch 81 0 2 #[28, 43, 58], 28) := by decide +kernel
theorem dX0_startWithOwn_112 : decode cX0_startWithOwn 112 = .ok (.aload_n 0, 1) := by decide +kernel
theorem dX0_startWithOwn_113 : decode cX0_startWithOwn 113 = .ok (.getfield 15, 3) := by decide +kernel
theorem dX0_startWithOwn_116 : decode cX0_startWithOwn 116 = .ok (.iload 4, 2) := by decide +kernel
theorem dX0_startWithOwn_118 : decode cX0_startWithOwn 118 = .ok (.dup2, 1) := by decide +kernel
theorem dX0_startWithOwn_119 : decode cX0_startWithOwn 119 = .ok (.iaload, 1) := by decide +kernel
theorem dX0_startWithOwn_120 : decode cX0_startWithOwn 120 = .ok (.iload 6, 2) := by decide +kernel
theorem dX0_startWithOwn_122 : decode cX0_startWithOwn 122 = .ok (.ior, 1) := by decide +kernel
theorem dX0_startWithOwn_123 : decode cX0_startWithOwn 123 = .ok (.iastore, 1) := by decide +kernel
theorem dX0_startWithOwn_124 : decode cX0_startWithOwn 124 = .ok (.goto 41, 3) := by decide +kernel
theorem dX0_startWithOwn_127 : decode cX0_startWithOwn 127 = .ok (.aload_n 0, 1) := by decide +kernel
theorem dX0_startWithOwn_128 : decode cX0_startWithOwn 128 = .ok (.getfield 18, 3) := by decide +kernel
theorem dX0_startWithOwn_131 : decode cX0_startWithOwn 131 = .ok (.iload 4, 2) := by decide +kernel
theorem dX0_startWithOwn_133 : decode cX0_startWithOwn 133 = .ok (.dup2, 1) := by decide +kernel
theorem dX0_startWithOwn_134 : decode cX0_startWithOwn 134 = .ok (.iaload, 1) := by decide +kernel
theorem dX0_startWithOwn_135 : decode cX0_startWithOwn 135 = .ok (.iload 6, 2) := by decide +kernel
theorem dX0_startWithOwn_137 : decode cX0_startWithOwn 137 = .ok (.ior, 1) := by decide +kernel
theorem dX0_startWithOwn_138 : decode cX0_startWithOwn 138 = .ok (.iastore, 1) := by decide +kernel
theorem dX0_startWithOwn_139 : decode cX0_startWithOwn 139 = .ok (.goto 26, 3) := by decide +kernel
theorem dX0_startWithOwn_142 : decode cX0_startWithOwn 142 = .ok (.aload_n 0, 1) := by decide +kernel
theorem dX0_startWithOwn_143 : decode cX0_startWithOwn 143 = .ok (.getfield 11, 3) := by decide +kernel
theorem dX0_startWithOwn_146 : decode cX0_startWithOwn 146 = .ok (.iload 4, 2) := by decide +kernel
theorem dX0_startWithOwn_148 : decode cX0_startWithOwn 148 = .ok (.dup2, 1) := by decide +kernel
theorem dX0_startWithOwn_149 : decode cX0_startWithOwn 149 = .ok (.iaload, 1) := by decide +kernel
theorem dX0_startWithOwn_150 : decode cX0_startWithOwn 150 = .ok (.iload 6, 2) := by decide +kernel
theorem dX0_startWithOwn_152 : decode cX0_startWithOwn 152 = .ok (.ior, 1) := by decide +kernel
theorem dX0_startWithOwn_153 : decode cX0_startWithOwn 153 = .ok (.iastore, 1) := by decide +kernel
theorem dX0_startWithOwn_154 : decode cX0_startWithOwn 154 = .ok (.aload_n 0, 1) := by decide +kernel
theorem dX0_startWithOwn_155 : decode cX0_startWithOwn 155 = .ok (.getfield 21, 3) := by decide +kernel
theorem dX0_startWithOwn_158 : decode cX0_startWithOwn 158 = .ok (.iload 4, 2) := by decide +kernel
theorem dX0_startWithOwn_160 : decode cX0_startWithOwn 160 = .ok (.iconst 1, 1) := by decide +kernel
theorem dX0_startWithOwn_161 : decode cX0_startWithOwn 161 = .ok (.iastore, 1) := by decide +kernel
theorem dX0_startWithOwn_162 : decode cX0_startWithOwn 162 = .ok (.goto 3, 3) := by decide +kernel
theorem dX0_startWithOwn_165 : decode cX0_startWithOwn 165 = .ok (.iinc 5 1, 3) := by decide +kernel
theorem dX0_startWithOwn_168 : decode cX0_startWithOwn 168 = .ok (.goto (-115), 3) := by decide +kernel
theorem dX0_startWithOwn_171 : decode cX0_startWithOwn 171 = .ok (.iconst 0, 1) := by decide +kernel
theorem dX0_startWithOwn_172 : decode cX0_startWithOwn 172 = .ok (.istore 5, 2) := by decide +kernel
theorem dX0_startWithOwn_174 : decode cX0_startWithOwn 174 = .ok (.iload 5, 2) := by decide +kernel
theorem dX0_startWithOwn_176 : decode cX0_startWithOwn 176 = .ok (.aload_n 1, 1) := by decide +kernel
theorem dX0_startWithOwn_177 : decode cX0_startWithOwn 177 = .ok (.getfield 86, 3) := by decide +kernel
theorem dX0_startWithOwn_180 : decode cX0_startWithOwn 180 = .ok (.if_icmp .ge 43, 3) := by decide +kernel
theorem dX0_startWithOwn_183 : decode cX0_startWithOwn 183 = .ok (.aload_n 1, 1) := by decide +kernel
theorem dX0_startWithOwn_184 : decode cX0_startWithOwn 184 = .ok (.getfield 89, 3) := by decide +kernel
theorem dX0_startWithOwn_187 : decode cX0_startWithOwn 187 = .ok (.iload 5, 2) := by decide +kernel
theorem dX0_startWithOwn_189 : decode cX0_startWithOwn 189 = .ok (.iaload, 1) := by decide +kernel
theorem dX0_startWithOwn_190 : decode cX0_startWithOwn 190 = .ok (.iconst 2, 1) := by decide +kernel
theorem dX0_startWithOwn_191 : decode cX0_startWithOwn 191 = .ok (.if_icmp .ne 26, 3) := by decide +kernel
theorem dX0_startWithOwn_194 : decode cX0_startWithOwn 194 = .ok (.aload_n 0, 1) := by decide +kernel
theorem dX0_startWithOwn_195 : decode cX0_startWithOwn 195 = .ok (.getfield 11, 3) := by decide +kernel
theorem dX0_startWithOwn_198 : decode cX0_startWithOwn 198 = .ok (.iload 4, 2) := by decide +kernel
theorem dX0_startWithOwn_200 : decode cX0_startWithOwn 200 = .ok (.dup2, 1) := by decide +kernel
theorem dX0_startWithOwn_201 : decode cX0_startWithOwn 201 = .ok (.iaload, 1) := by decide +kernel
theorem dX0_startWithOwn_202 : decode cX0_startWithOwn 202 = .ok (.iconst 1, 1) := by decide +kernel
theorem dX0_startWithOwn_203 : decode cX0_startWithOwn 203 = .ok (.aload_n 1, 1) := by decide +kernel
theorem dX0_startWithOwn_204 : decode cX0_startWithOwn 204 = .ok (.getfield 92, 3) := by decide +kernel
theorem dX0_startWithOwn_207 : decode cX0_startWithOwn 207 = .ok (.iload 5, 2) := by decide +kernel
theorem dX0_startWithOwn_209 : decode cX0_startWithOwn 209 = .ok (.iaload, 1) := by decide +kernel
theorem dX0_startWithOwn_210 : decode cX0_startWithOwn 210 = .ok (.iload_n 3, 1) := by decide +kernel
theorem dX0_startWithOwn_211 : decode cX0_startWithOwn 211 = .ok (.invokestatic 79, 3) := by decide +kernel
theorem dX0_startWithOwn_214 : decode cX0_startWithOwn 214 = .ok (.ishl, 1) := by decide +kernel
theorem dX0_startWithOwn_215 : decode cX0_startWithOwn 215 = .ok (.ior, 1) := by decide +kernel
theorem dX0_startWithOwn_216 : decode cX0_startWithOwn 216 = .ok (.iastore, 1) := by decide +kernel
theorem dX0_startWithOwn_217 : decode cX0_startWithOwn 217 = .ok (.iinc 5 1, 3) := by decide +kernel
theorem dX0_startWithOwn_220 : decode cX0_startWithOwn 220 = .ok (.goto (-46), 3) := by decide +kernel
theorem dX0_startWithOwn_223 : decode cX0_startWithOwn 223 = .ok (.return_, 1) := by decide +kernel
theorem dX0_goRound_0 : decode cX0_goRound 0 = .ok (.iconst 0, 1) := by decide +kernel
theorem dX0_goRound_1 : decode cX0_goRound 1 = .ok (.istore_n 2, 1) := by decide +kernel
theorem dX0_goRound_2 : decode cX0_goRound 2 = .ok (.iconst 0, 1) := by decide +kernel
theorem dX0_goRound_3 : decode cX0_goRound 3 = .ok (.istore_n 3, 1) := by decide +kernel
theorem dX0_goRound_4 : decode cX0_goRound 4 = .ok (.iload_n 3, 1) := by decide +kernel
theorem dX0_goRound_5 : decode cX0_goRound 5 = .ok (.bipush 6, 2) := by decide +kernel
theorem dX0_goRound_7 : decode cX0_goRound 7 = .ok (.if_icmp .ge 72, 3) := by decide +kernel
theorem dX0_goRound_10 : decode cX0_goRound 10 = .ok (.aload_n 0, 1) := by decide +kernel
theorem dX0_goRound_11 : decode cX0_goRound 11 = .ok (.getfield 24, 3) := by decide +kernel
theorem dX0_goRound_14 : decode cX0_goRound 14 = .ok (.iload_n 3, 1) := by decide +kernel
theorem dX0_goRound_15 : decode cX0_goRound 15 = .ok (.baload, 1) := by decide +kernel
theorem dX0_goRound_16 : decode cX0_goRound 16 = .ok (.ifCond .eq 57, 3) := by decide +kernel
theorem dX0_goRound_19 : decode cX0_goRound 19 = .ok (.aload_n 1, 1) := by decide +kernel
theorem dX0_goRound_20 : decode cX0_goRound 20 = .ok (.iload_n 3, 1) := by decide +kernel
theorem dX0_goRound_21 : decode cX0_goRound 21 = .ok (.aaload, 1) := by decide +kernel
theorem dX0_goRound_22 : decode cX0_goRound 22 = .ok (.invokevirtual 65, 3) := by decide +kernel
theorem dX0_goRound_25 : decode cX0_goRound 25 = .ok (.ifCond .eq 48, 3) := by decide +kernel
theorem dX0_goRound_28 : decode cX0_goRound 28 = .ok (.iconst 0, 1) := by decide +kernel
theorem dX0_goRound_29 : decode cX0_goRound 29 = .ok (.istore 4, 2) := by decide +kernel
theorem dX0_goRound_31 : decode cX0_goRound 31 = .ok (.iload 4, 2) := by decide +kernel
theorem dX0_goRound_33 : decode cX0_goRound 33 = .ok (.bipush 12, 2) := by decide +kernel
theorem dX0_goRound_35 : decode cX0_goRound 35 = .ok (.if_icmp .ge 38, 3) := by decide +kernel
theorem dX0_goRound_38 : decode cX0_goRound 38 = .ok (.aload_n 0, 1) := by decide +kernel
theorem dX0_goRound_39 : decode cX0_goRound 39 = .ok (.aload_n 1, 1) := by decide +kernel
theorem dX0_goRound_40 : decode cX0_goRound 40 = .ok (.iload_n 3, 1) := by decide +kernel
theorem dX0_goRound_41 : decode cX0_goRound 41 = .ok (.aaload, 1) := by decide +kernel
theorem dX0_goRound_42 : decode cX0_goRound 42 = .ok (.iload_n 3, 1) := by decide +kernel
theorem dX0_goRound_43 : decode cX0_goRound 43 = .ok (.bipush 12, 2) := by decide +kernel
theorem dX0_goRound_45 : decode cX0_goRound 45 = .ok (.imul, 1) := by decide +kernel
theorem dX0_goRound_46 : decode cX0_goRound 46 = .ok (.iload 4, 2) := by decide +kernel
theorem dX0_goRound_48 : decode cX0_goRound 48 = .ok (.iadd, 1) := by decide +kernel
theorem dX0_goRound_49 : decode cX0_goRound 49 = .ok (.iload 4, 2) := by decide +kernel
theorem dX0_goRound_51 : decode cX0_goRound 51 = .ok (.invokevirtual 95, 3) := by decide +kernel
theorem dX0_goRound_54 : decode cX0_goRound 54 = .ok (.ifCond .ne 7, 3) := by decide +kernel
theorem dX0_goRound_57 : decode cX0_goRound 57 = .ok (.iload_n 2, 1) := by decide +kernel
theorem dX0_goRound_58 : decode cX0_goRound 58 = .ok (.ifCond .eq 7, 3) := by decide +kernel
theorem dX0_goRound_61 : decode cX0_goRound 61 = .ok (.iconst 1, 1) := by decide +kernel
theorem dX0_goRound_62 : decode cX0_goRound 62 = .ok (.goto 4, 3) := by decide +kernel
theorem dX0_goRound_65 : decode cX0_goRound 65 = .ok (.iconst 0, 1) := by decide +kernel
theorem dX0_goRound_66 : decode cX0_goRound 66 = .ok (.istore_n 2, 1) := by decide +kernel
theorem dX0_goRound_67 : decode cX0_goRound 67 = .ok (.iinc 4 1, 3) := by decide +kernel
theorem dX0_goRound_70 : decode cX0_goRound 70 = .ok (.goto (-39), 3) := by decide +kernel
theorem dX0_goRound_73 : decode cX0_goRound 73 = .ok (.iinc 3 1, 3) := by decide +kernel
theorem dX0_goRound_76 : decode cX0_goRound 76 = .ok (.goto (-72), 3) := by decide +kernel
theorem dX0_goRound_79 : decode cX0_goRound 79 = .ok (.iload_n 2, 1) := by decide +kernel
theorem dX0_goRound_80 : decode cX0_goRound 80 = .ok (.ireturn, 1) := by decide +kernel
theorem dX0_takeFromCallees_0 : decode cX0_takeFromCallees 0 = .ok (.iconst 0, 1) := by decide +kernel
theorem dX0_takeFromCallees_1 : decode cX0_takeFromCallees 1 = .ok (.istore 4, 2) := by decide +kernel
theorem dX0_takeFromCallees_3 : decode cX0_takeFromCallees 3 = .ok (.iconst 0, 1) := by decide +kernel
theorem dX0_takeFromCallees_4 : decode cX0_takeFromCallees 4 = .ok (.istore 5, 2) := by decide +kernel
theorem dX0_takeFromCallees_6 : decode cX0_takeFromCallees 6 = .ok (.iload 5, 2) := by decide +kernel
theorem dX0_takeFromCallees_8 : decode cX0_takeFromCallees 8 = .ok (.aload_n 1, 1) := by decide +kernel
theorem dX0_takeFromCallees_9 : decode cX0_takeFromCallees 9 = .ok (.getfield 73, 3) := by decide +kernel
theorem dX0_takeFromCallees_12 : decode cX0_takeFromCallees 12 = .ok (.if_icmp .ge 69, 3) := by decide +kernel
theorem dX0_takeFromCallees_15 : decode cX0_takeFromCallees 15 = .ok (.aload_n 1, 1) := by decide +kernel
theorem dX0_takeFromCallees_16 : decode cX0_takeFromCallees 16 = .ok (.getfield 83, 3) := by decide +kernel
theorem dX0_takeFromCallees_19 : decode cX0_takeFromCallees 19 = .ok (.iload 5, 2) := by decide +kernel
theorem dX0_takeFromCallees_21 : decode cX0_takeFromCallees 21 = .ok (.iaload, 1) := by decide +kernel
theorem dX0_takeFromCallees_22 : decode cX0_takeFromCallees 22 = .ok (.iconst 3, 1) := by decide +kernel
theorem dX0_takeFromCallees_23 : decode cX0_takeFromCallees 23 = .ok (.if_icmp .ne 52, 3) := by decide +kernel
theorem dX0_takeFromCallees_26 : decode cX0_takeFromCallees 26 = .ok (.aload_n 1, 1) := by decide +kernel
theorem dX0_takeFromCallees_27 : decode cX0_takeFromCallees 27 = .ok (.getfield 76, 3) := by decide +kernel
theorem dX0_takeFromCallees_30 : decode cX0_takeFromCallees 30 = .ok (.iload 5, 2) := by decide +kernel
theorem dX0_takeFromCallees_32 : decode cX0_takeFromCallees 32 = .ok (.iaload, 1) := by decide +kernel
theorem dX0_takeFromCallees_33 : decode cX0_takeFromCallees 33 = .ok (.iload_n 3, 1) := by decide +kernel
theorem dX0_takeFromCallees_34 : decode cX0_takeFromCallees 34 = .ok (.invokestatic 79, 3) := by decide +kernel
theorem dX0_takeFromCallees_37 : decode cX0_takeFromCallees 37 = .ok (.bipush 6, 2) := by decide +kernel
theorem dX0_takeFromCallees_39 : decode cX0_takeFromCallees 39 = .ok (.isub, 1) := by decide +kernel
theorem dX0_takeFromCallees_40 : decode cX0_takeFromCallees 40 = .ok (.istore 6, 2) := by decide +kernel
theorem dX0_takeFromCallees_42 : decode cX0_takeFromCallees 42 = .ok (.aload_n 0, 1) := by decide +kernel
theorem dX0_takeFromCallees_43 : decode cX0_takeFromCallees 43 = .ok (.iload_n 2, 1) := by decide +kernel
theorem dX0_takeFromCallees_44 : decode cX0_takeFromCallees 44 = .ok (.aload_n 1, 1) := by decide +kernel
theorem dX0_takeFromCallees_45 : decode cX0_takeFromCallees 45 = .ok (.getfield 99, 3) := by decide +kernel
theorem dX0_takeFromCallees_48 : decode cX0_takeFromCallees 48 = .ok (.iload 5, 2) := by decide +kernel
theorem dX0_takeFromCallees_50 : decode cX0_takeFromCallees 50 = .ok (.iaload, 1) := by decide +kernel
theorem dX0_takeFromCallees_51 : decode cX0_takeFromCallees 51 = .ok (.bipush 12, 2) := by decide +kernel
theorem dX0_takeFromCallees_53 : decode cX0_takeFromCallees 53 = .ok (.imul, 1) := by decide +kernel
theorem dX0_takeFromCallees_54 : decode cX0_takeFromCallees 54 = .ok (.iload 6, 2) := by decide +kernel
theorem dX0_takeFromCallees_56 : decode cX0_takeFromCallees 56 = .ok (.iadd, 1) := by decide +kernel
theorem dX0_takeFromCallees_57 : decode cX0_takeFromCallees 57 = .ok (.invokevirtual 102, 3) := by decide +kernel
theorem dX0_takeFromCallees_60 : decode cX0_takeFromCallees 60 = .ok (.ifCond .ne 8, 3) := by decide +kernel
theorem dX0_takeFromCallees_63 : decode cX0_takeFromCallees 63 = .ok (.iload 4, 2) := by decide +kernel
theorem dX0_takeFromCallees_65 : decode cX0_takeFromCallees 65 = .ok (.ifCond .eq 7, 3) := by decide +kernel
theorem dX0_takeFromCallees_68 : decode cX0_takeFromCallees 68 = .ok (.iconst 1, 1) := by decide +kernel
theorem dX0_takeFromCallees_69 : decode cX0_takeFromCallees 69 = .ok (.goto 4, 3) := by decide +kernel
theorem dX0_takeFromCallees_72 : decode cX0_takeFromCallees 72 = .ok (.iconst 0, 1) := by decide +kernel
theorem dX0_takeFromCallees_73 : decode cX0_takeFromCallees 73 = .ok (.istore 4, 2) := by decide +kernel
theorem dX0_takeFromCallees_75 : decode cX0_takeFromCallees 75 = .ok (.iinc 5 1, 3) := by decide +kernel
theorem dX0_takeFromCallees_78 : decode cX0_takeFromCallees 78 = .ok (.goto (-72), 3) := by decide +kernel
theorem dX0_takeFromCallees_81 : decode cX0_takeFromCallees 81 = .ok (.iload 4, 2) := by decide +kernel
theorem dX0_takeFromCallees_83 : decode cX0_takeFromCallees 83 = .ok (.ireturn, 1) := by decide +kernel
theorem dX0_take_0 : decode cX0_take 0 = .ok (.aload_n 0, 1) := by decide +kernel
theorem dX0_take_1 : decode cX0_take 1 = .ok (.getfield 11, 3) := by decide +kernel
theorem dX0_take_4 : decode cX0_take 4 = .ok (.iload_n 2, 1) := by decide +kernel
theorem dX0_take_5 : decode cX0_take 5 = .ok (.iaload, 1) := by decide +kernel
theorem dX0_take_6 : decode cX0_take 6 = .ok (.aload_n 0, 1) := by decide +kernel
theorem dX0_take_7 : decode cX0_take 7 = .ok (.getfield 11, 3) := by decide +kernel
theorem dX0_take_10 : decode cX0_take 10 = .ok (.iload_n 1, 1) := by decide +kernel
theorem dX0_take_11 : decode cX0_take 11 = .ok (.iaload, 1) := by decide +kernel
theorem dX0_take_12 : decode cX0_take 12 = .ok (.iconst (-1), 1) := by decide +kernel
theorem dX0_take_13 : decode cX0_take 13 = .ok (.ixor, 1) := by decide +kernel
theorem dX0_take_14 : decode cX0_take 14 = .ok (.iand, 1) := by decide +kernel
theorem dX0_take_15 : decode cX0_take 15 = .ok (.aload_n 0, 1) := by decide +kernel
theorem dX0_take_16 : decode cX0_take 16 = .ok (.getfield 15, 3) := by decide +kernel
theorem dX0_take_19 : decode cX0_take 19 = .ok (.iload_n 2, 1) := by decide +kernel
theorem dX0_take_20 : decode cX0_take 20 = .ok (.iaload, 1) := by decide +kernel
theorem dX0_take_21 : decode cX0_take 21 = .ok (.aload_n 0, 1) := by decide +kernel
theorem dX0_take_22 : decode cX0_take 22 = .ok (.getfield 15, 3) := by decide +kernel
theorem dX0_take_25 : decode cX0_take 25 = .ok (.iload_n 1, 1) := by decide +kernel
theorem dX0_take_26 : decode cX0_take 26 = .ok (.iaload, 1) := by decide +kernel
theorem dX0_take_27 : decode cX0_take 27 = .ok (.iconst (-1), 1) := by decide +kernel
theorem dX0_take_28 : decode cX0_take 28 = .ok (.ixor, 1) := by decide +kernel
theorem dX0_take_29 : decode cX0_take 29 = .ok (.iand, 1) := by decide +kernel
theorem dX0_take_30 : decode cX0_take 30 = .ok (.ior, 1) := by decide +kernel
theorem dX0_take_31 : decode cX0_take 31 = .ok (.aload_n 0, 1) := by decide +kernel
theorem dX0_take_32 : decode cX0_take 32 = .ok (.getfield 18, 3) := by decide +kernel
theorem dX0_take_35 : decode cX0_take 35 = .ok (.iload_n 2, 1) := by decide +kernel
theorem dX0_take_36 : decode cX0_take 36 = .ok (.iaload, 1) := by decide +kernel
theorem dX0_take_37 : decode cX0_take 37 = .ok (.aload_n 0, 1) := by decide +kernel
theorem dX0_take_38 : decode cX0_take 38 = .ok (.getfield 18, 3) := by decide +kernel
theorem dX0_take_41 : decode cX0_take 41 = .ok (.iload_n 1, 1) := by decide +kernel
theorem dX0_take_42 : decode cX0_take 42 = .ok (.iaload, 1) := by decide +kernel
theorem dX0_take_43 : decode cX0_take 43 = .ok (.iconst (-1), 1) := by decide +kernel
theorem dX0_take_44 : decode cX0_take 44 = .ok (.ixor, 1) := by decide +kernel
theorem dX0_take_45 : decode cX0_take 45 = .ok (.iand, 1) := by decide +kernel
theorem dX0_take_46 : decode cX0_take 46 = .ok (.ior, 1) := by decide +kernel
theorem dX0_take_47 : decode cX0_take 47 = .ok (.aload_n 0, 1) := by decide +kernel
theorem dX0_take_48 : decode cX0_take 48 = .ok (.getfield 21, 3) := by decide +kernel
theorem dX0_take_51 : decode cX0_take 51 = .ok (.iload_n 2, 1) := by decide +kernel
theorem dX0_take_52 : decode cX0_take 52 = .ok (.iaload, 1) := by decide +kernel
theorem dX0_take_53 : decode cX0_take 53 = .ok (.aload_n 0, 1) := by decide +kernel
theorem dX0_take_54 : decode cX0_take 54 = .ok (.getfield 21, 3) := by decide +kernel
theorem dX0_take_57 : decode cX0_take 57 = .ok (.iload_n 1, 1) := by decide +kernel
theorem dX0_take_58 : decode cX0_take 58 = .ok (.iaload, 1) := by decide +kernel
theorem dX0_take_59 : decode cX0_take 59 = .ok (.iconst (-1), 1) := by decide +kernel
theorem dX0_take_60 : decode cX0_take 60 = .ok (.ixor, 1) := by decide +kernel
theorem dX0_take_61 : decode cX0_take 61 = .ok (.iand, 1) := by decide +kernel
theorem dX0_take_62 : decode cX0_take 62 = .ok (.ior, 1) := by decide +kernel
theorem dX0_take_63 : decode cX0_take 63 = .ok (.istore_n 3, 1) := by decide +kernel
theorem dX0_take_64 : decode cX0_take 64 = .ok (.aload_n 0, 1) := by decide +kernel
theorem dX0_take_65 : decode cX0_take 65 = .ok (.getfield 11, 3) := by decide +kernel
theorem dX0_take_68 : decode cX0_take 68 = .ok (.iload_n 1, 1) := by decide +kernel
theorem dX0_take_69 : decode cX0_take 69 = .ok (.dup2, 1) := by decide +kernel
theorem dX0_take_70 : decode cX0_take 70 = .ok (.iaload, 1) := by decide +kernel
theorem dX0_take_71 : decode cX0_take 71 = .ok (.aload_n 0, 1) := by decide +kernel
theorem dX0_take_72 : decode cX0_take 72 = .ok (.getfield 11, 3) := by decide +kernel
theorem dX0_take_75 : decode cX0_take 75 = .ok (.iload_n 2, 1) := by decide +kernel
theorem dX0_take_76 : decode cX0_take 76 = .ok (.iaload, 1) := by decide +kernel
theorem dX0_take_77 : decode cX0_take 77 = .ok (.ior, 1) := by decide +kernel
theorem dX0_take_78 : decode cX0_take 78 = .ok (.iastore, 1) := by decide +kernel
theorem dX0_take_79 : decode cX0_take 79 = .ok (.aload_n 0, 1) := by decide +kernel
theorem dX0_take_80 : decode cX0_take 80 = .ok (.getfield 15, 3) := by decide +kernel
theorem dX0_take_83 : decode cX0_take 83 = .ok (.iload_n 1, 1) := by decide +kernel
theorem dX0_take_84 : decode cX0_take 84 = .ok (.dup2, 1) := by decide +kernel
theorem dX0_take_85 : decode cX0_take 85 = .ok (.iaload, 1) := by decide +kernel
theorem dX0_take_86 : decode cX0_take 86 = .ok (.aload_n 0, 1) := by decide +kernel
theorem dX0_take_87 : decode cX0_take 87 = .ok (.getfield 15, 3) := by decide +kernel
theorem dX0_take_90 : decode cX0_take 90 = .ok (.iload_n 2, 1) := by decide +kernel
theorem dX0_take_91 : decode cX0_take 91 = .ok (.iaload, 1) := by decide +kernel
theorem dX0_take_92 : decode cX0_take 92 = .ok (.ior, 1) := by decide +kernel
theorem dX0_take_93 : decode cX0_take 93 = .ok (.iastore, 1) := by decide +kernel
theorem dX0_take_94 : decode cX0_take 94 = .ok (.aload_n 0, 1) := by decide +kernel
theorem dX0_take_95 : decode cX0_take 95 = .ok (.getfield 18, 3) := by decide +kernel
theorem dX0_take_98 : decode cX0_take 98 = .ok (.iload_n 1, 1) := by decide +kernel
theorem dX0_take_99 : decode cX0_take 99 = .ok (.dup2, 1) := by decide +kernel
theorem dX0_take_100 : decode cX0_take 100 = .ok (.iaload, 1) := by decide +kernel
theorem dX0_take_101 : decode cX0_take 101 = .ok (.aload_n 0, 1) := by decide +kernel
theorem dX0_take_102 : decode cX0_take 102 = .ok (.getfield 18, 3) := by decide +kernel
theorem dX0_take_105 : decode cX0_take 105 = .ok (.iload_n 2, 1) := by decide +kernel
theorem dX0_take_106 : decode cX0_take 106 = .ok (.iaload, 1) := by decide +kernel
theorem dX0_take_107 : decode cX0_take 107 = .ok (.ior, 1) := by decide +kernel
theorem dX0_take_108 : decode cX0_take 108 = .ok (.iastore, 1) := by decide +kernel
theorem dX0_take_109 : decode cX0_take 109 = .ok (.aload_n 0, 1) := by decide +kernel
theorem dX0_take_110 : decode cX0_take 110 = .ok (.getfield 21, 3) := by decide +kernel
theorem dX0_take_113 : decode cX0_take 113 = .ok (.iload_n 1, 1) := by decide +kernel
theorem dX0_take_114 : decode cX0_take 114 = .ok (.dup2, 1) := by decide +kernel
theorem dX0_take_115 : decode cX0_take 115 = .ok (.iaload, 1) := by decide +kernel
theorem dX0_take_116 : decode cX0_take 116 = .ok (.aload_n 0, 1) := by decide +kernel
theorem dX0_take_117 : decode cX0_take 117 = .ok (.getfield 21, 3) := by decide +kernel
theorem dX0_take_120 : decode cX0_take 120 = .ok (.iload_n 2, 1) := by decide +kernel
theorem dX0_take_121 : decode cX0_take 121 = .ok (.iaload, 1) := by decide +kernel
theorem dX0_take_122 : decode cX0_take 122 = .ok (.ior, 1) := by decide +kernel
theorem dX0_take_123 : decode cX0_take 123 = .ok (.iastore, 1) := by decide +kernel
theorem dX0_take_124 : decode cX0_take 124 = .ok (.iload_n 3, 1) := by decide +kernel
theorem dX0_take_125 : decode cX0_take 125 = .ok (.ifCond .eq 7, 3) := by decide +kernel
theorem dX0_take_128 : decode cX0_take 128 = .ok (.iconst 1, 1) := by decide +kernel
theorem dX0_take_129 : decode cX0_take 129 = .ok (.goto 4, 3) := by decide +kernel
theorem dX0_take_132 : decode cX0_take 132 = .ok (.iconst 0, 1) := by decide +kernel
theorem dX0_take_133 : decode cX0_take 133 = .ok (.ireturn, 1) := by decide +kernel
theorem dX1_init_0 : decode cX1_init 0 = .ok (.aload_n 0, 1) := by decide +kernel
theorem dX1_init_1 : decode cX1_init 1 = .ok (.invokespecial 3, 3) := by decide +kernel
theorem dX1_init_4 : decode cX1_init 4 = .ok (.aload_n 0, 1) := by decide +kernel
theorem dX1_init_5 : decode cX1_init 5 = .ok (.bipush 18, 2) := by decide +kernel
theorem dX1_init_7 : decode cX1_init 7 = .ok (.newarray .int, 2) := by decide +kernel
theorem dX1_init_9 : decode cX1_init 9 = .ok (.putfield 9, 3) := by decide +kernel
theorem dX1_init_12 : decode cX1_init 12 = .ok (.aload_n 0, 1) := by decide +kernel
theorem dX1_init_13 : decode cX1_init 13 = .ok (.new 15, 3) := by decide +kernel
theorem dX1_init_16 : decode cX1_init 16 = .ok (.dup, 1) := by decide +kernel
theorem dX1_init_17 : decode cX1_init 17 = .ok (.invokespecial 17, 3) := by decide +kernel
theorem dX1_init_20 : decode cX1_init 20 = .ok (.putfield 18, 3) := by decide +kernel
theorem dX1_init_23 : decode cX1_init 23 = .ok (.aload_n 0, 1) := by decide +kernel
theorem dX1_init_24 : decode cX1_init 24 = .ok (.iconst 0, 1) := by decide +kernel
theorem dX1_init_25 : decode cX1_init 25 = .ok (.putfield 22, 3) := by decide +kernel
theorem dX1_init_28 : decode cX1_init 28 = .ok (.return_, 1) := by decide +kernel
theorem dX1_keep_0 : decode cX1_keep 0 = .ok (.aload_n 1, 1) := by decide +kernel
theorem dX1_keep_1 : decode cX1_keep 1 = .ok (.iconst 0, 1) := by decide +kernel
theorem dX1_keep_2 : decode cX1_keep 2 = .ok (.aload_n 0, 1) := by decide +kernel
theorem dX1_keep_3 : decode cX1_keep 3 = .ok (.getfield 9, 3) := by decide +kernel
theorem dX1_keep_6 : decode cX1_keep 6 = .ok (.iconst 0, 1) := by decide +kernel
theorem dX1_keep_7 : decode cX1_keep 7 = .ok (.bipush 18, 2) := by decide +kernel
theorem dX1_keep_9 : decode cX1_keep 9 = .ok (.invokestatic 26, 3) := by decide +kernel
theorem dX1_keep_12 : decode cX1_keep 12 = .ok (.aload_n 0, 1) := by decide +kernel
theorem dX1_keep_13 : decode cX1_keep 13 = .ok (.getfield 18, 3) := by decide +kernel
theorem dX1_keep_16 : decode cX1_keep 16 = .ok (.aload_n 2, 1) := by decide +kernel
theorem dX1_keep_17 : decode cX1_keep 17 = .ok (.invokevirtual 32, 3) := by decide +kernel
theorem dX1_keep_20 : decode cX1_keep 20 = .ok (.aload_n 0, 1) := by decide +kernel
theorem dX1_keep_21 : decode cX1_keep 21 = .ok (.iconst 1, 1) := by decide +kernel
theorem dX1_keep_22 : decode cX1_keep 22 = .ok (.putfield 22, 3) := by decide +kernel
theorem dX1_keep_25 : decode cX1_keep 25 = .ok (.return_, 1) := by decide +kernel
theorem dX2_init_0 : decode cX2_init 0 = .ok (.aload_n 0, 1) := by decide +kernel
theorem dX2_init_1 : decode cX2_init 1 = .ok (.invokespecial 3, 3) := by decide +kernel
theorem dX2_init_4 : decode cX2_init 4 = .ok (.aload_n 0, 1) := by decide +kernel
theorem dX2_init_5 : decode cX2_init 5 = .ok (.new 9, 3) := by decide +kernel
theorem dX2_init_8 : decode cX2_init 8 = .ok (.dup, 1) := by decide +kernel
theorem dX2_init_9 : decode cX2_init 9 = .ok (.invokespecial 11, 3) := by decide +kernel
theorem dX2_init_12 : decode cX2_init 12 = .ok (.putfield 12, 3) := by decide +kernel
theorem dX2_init_15 : decode cX2_init 15 = .ok (.aload_n 0, 1) := by decide +kernel
theorem dX2_init_16 : decode cX2_init 16 = .ok (.bipush 16, 2) := by decide +kernel
theorem dX2_init_18 : decode cX2_init 18 = .ok (.newarray .int, 2) := by decide +kernel
theorem dX2_init_20 : decode cX2_init 20 = .ok (.putfield 18, 3) := by decide +kernel
theorem dX2_init_23 : decode cX2_init 23 = .ok (.aload_n 0, 1) := by decide +kernel
theorem dX2_init_24 : decode cX2_init 24 = .ok (.bipush 16, 2) := by decide +kernel
theorem dX2_init_26 : decode cX2_init 26 = .ok (.newarray .int, 2) := by decide +kernel
theorem dX2_init_28 : decode cX2_init 28 = .ok (.putfield 22, 3) := by decide +kernel
theorem dX2_init_31 : decode cX2_init 31 = .ok (.aload_n 0, 1) := by decide +kernel
theorem dX2_init_32 : decode cX2_init 32 = .ok (.bipush 16, 2) := by decide +kernel
theorem dX2_init_34 : decode cX2_init 34 = .ok (.newarray .int, 2) := by decide +kernel
theorem dX2_init_36 : decode cX2_init 36 = .ok (.putfield 25, 3) := by decide +kernel
theorem dX2_init_39 : decode cX2_init 39 = .ok (.aload_n 0, 1) := by decide +kernel
theorem dX2_init_40 : decode cX2_init 40 = .ok (.iconst 0, 1) := by decide +kernel
theorem dX2_init_41 : decode cX2_init 41 = .ok (.putfield 28, 3) := by decide +kernel
theorem dX2_init_44 : decode cX2_init 44 = .ok (.aload_n 0, 1) := by decide +kernel
theorem dX2_init_45 : decode cX2_init 45 = .ok (.iconst 0, 1) := by decide +kernel
theorem dX2_init_46 : decode cX2_init 46 = .ok (.putfield 32, 3) := by decide +kernel
theorem dX2_init_49 : decode cX2_init 49 = .ok (.return_, 1) := by decide +kernel
theorem dX2_lay_0 : decode cX2_lay 0 = .ok (.aload_n 0, 1) := by decide +kernel
theorem dX2_lay_1 : decode cX2_lay 1 = .ok (.getfield 12, 3) := by decide +kernel
theorem dX2_lay_4 : decode cX2_lay 4 = .ok (.aload_n 1, 1) := by decide +kernel
theorem dX2_lay_5 : decode cX2_lay 5 = .ok (.invokevirtual 35, 3) := by decide +kernel
theorem dX2_lay_8 : decode cX2_lay 8 = .ok (.aload_n 0, 1) := by decide +kernel
theorem dX2_lay_9 : decode cX2_lay 9 = .ok (.iconst 0, 1) := by decide +kernel
theorem dX2_lay_10 : decode cX2_lay 10 = .ok (.putfield 28, 3) := by decide +kernel
theorem dX2_lay_13 : decode cX2_lay 13 = .ok (.aload_n 0, 1) := by decide +kernel
theorem dX2_lay_14 : decode cX2_lay 14 = .ok (.iconst 0, 1) := by decide +kernel
theorem dX2_lay_15 : decode cX2_lay 15 = .ok (.putfield 32, 3) := by decide +kernel
theorem dX2_lay_18 : decode cX2_lay 18 = .ok (.iconst 0, 1) := by decide +kernel
theorem dX2_lay_19 : decode cX2_lay 19 = .ok (.istore_n 3, 1) := by decide +kernel
theorem dX2_lay_20 : decode cX2_lay 20 = .ok (.iload_n 3, 1) := by decide +kernel
theorem dX2_lay_21 : decode cX2_lay 21 = .ok (.aload_n 0, 1) := by decide +kernel
theorem dX2_lay_22 : decode cX2_lay 22 = .ok (.getfield 12, 3) := by decide +kernel
theorem dX2_lay_25 : decode cX2_lay 25 = .ok (.getfield 39, 3) := by decide +kernel
theorem dX2_lay_28 : decode cX2_lay 28 = .ok (.if_icmp .ge 101, 3) := by decide +kernel
theorem dX2_lay_31 : decode cX2_lay 31 = .ok (.aload_n 0, 1) := by decide +kernel
theorem dX2_lay_32 : decode cX2_lay 32 = .ok (.getfield 18, 3) := by decide +kernel
theorem dX2_lay_35 : decode cX2_lay 35 = .ok (.iload_n 3, 1) := by decide +kernel
theorem dX2_lay_36 : decode cX2_lay 36 = .ok (.iconst 0, 1) := by decide +kernel
theorem dX2_lay_37 : decode cX2_lay 37 = .ok (.iastore, 1) := by decide +kernel
theorem dX2_lay_38 : decode cX2_lay 38 = .ok (.iconst 0, 1) := by decide +kernel
theorem dX2_lay_39 : decode cX2_lay 39 = .ok (.istore 4, 2) := by decide +kernel
end
section
theorem dX2_lay_41 : decode cX2_lay 41 = .ok (.iload 4, 2) := by decide +kernel
theorem dX2_lay_43 : decode cX2_lay 43 = .ok (.iload_n 3, 1) := by decide +kernel
theorem dX2_lay_44 : decode cX2_lay 44 = .ok (.if_icmp .ge 60, 3) := by decide +kernel
theorem dX2_lay_47 : decode cX2_lay 47 = .ok (.aload_n 2, 1) := by decide +kernel
theorem dX2_lay_48 : decode cX2_lay 48 = .ok (.aload_n 0, 1) := by decide +kernel
theorem dX2_lay_49 : decode cX2_lay 49 = .ok (.getfield 12, 3) := by decide +kernel
theorem dX2_lay_52 : decode cX2_lay 52 = .ok (.iload 4, 2) := by decide +kernel
theorem dX2_lay_54 : decode cX2_lay 54 = .ok (.iload_n 3, 1) := by decide +kernel
theorem dX2_lay_55 : decode cX2_lay 55 = .ok (.invokevirtual 42, 3) := by decide +kernel
theorem dX2_lay_58 : decode cX2_lay 58 = .ok (.ifCond .eq 16, 3) := by decide +kernel
theorem dX2_lay_61 : decode cX2_lay 61 = .ok (.aload_n 0, 1) := by decide +kernel
theorem dX2_lay_62 : decode cX2_lay 62 = .ok (.dup, 1) := by decide +kernel
theorem dX2_lay_63 : decode cX2_lay 63 = .ok (.getfield 32, 3) := by decide +kernel
theorem dX2_lay_66 : decode cX2_lay 66 = .ok (.iconst 1, 1) := by decide +kernel
theorem dX2_lay_67 : decode cX2_lay 67 = .ok (.iadd, 1) := by decide +kernel
theorem dX2_lay_68 : decode cX2_lay 68 = .ok (.putfield 32, 3) := by decide +kernel
theorem dX2_lay_71 : decode cX2_lay 71 = .ok (.goto 27, 3) := by decide +kernel
theorem dX2_lay_74 : decode cX2_lay 74 = .ok (.aload_n 0, 1) := by decide +kernel
theorem dX2_lay_75 : decode cX2_lay 75 = .ok (.getfield 18, 3) := by decide +kernel
theorem dX2_lay_78 : decode cX2_lay 78 = .ok (.iload_n 3, 1) := by decide +kernel
theorem dX2_lay_79 : decode cX2_lay 79 = .ok (.aload_n 0, 1) := by decide +kernel
theorem dX2_lay_80 : decode cX2_lay 80 = .ok (.getfield 18, 3) := by decide +kernel
theorem dX2_lay_83 : decode cX2_lay 83 = .ok (.iload_n 3, 1) := by decide +kernel
theorem dX2_lay_84 : decode cX2_lay 84 = .ok (.iaload, 1) := by decide +kernel
theorem dX2_lay_85 : decode cX2_lay 85 = .ok (.aload_n 0, 1) := by decide +kernel
theorem dX2_lay_86 : decode cX2_lay 86 = .ok (.getfield 18, 3) := by decide +kernel
theorem dX2_lay_89 : decode cX2_lay 89 = .ok (.iload 4, 2) := by decide +kernel
theorem dX2_lay_91 : decode cX2_lay 91 = .ok (.iaload, 1) := by decide +kernel
theorem dX2_lay_92 : decode cX2_lay 92 = .ok (.iconst 1, 1) := by decide +kernel
theorem dX2_lay_93 : decode cX2_lay 93 = .ok (.iadd, 1) := by decide +kernel
theorem dX2_lay_94 : decode cX2_lay 94 = .ok (.invokestatic 48, 3) := by decide +kernel
theorem dX2_lay_97 : decode cX2_lay 97 = .ok (.iastore, 1) := by decide +kernel
theorem dX2_lay_98 : decode cX2_lay 98 = .ok (.iinc 4 1, 3) := by decide +kernel
theorem dX2_lay_101 : decode cX2_lay 101 = .ok (.goto (-60), 3) := by decide +kernel
theorem dX2_lay_104 : decode cX2_lay 104 = .ok (.aload_n 0, 1) := by decide +kernel
theorem dX2_lay_105 : decode cX2_lay 105 = .ok (.aload_n 0, 1) := by decide +kernel
theorem dX2_lay_106 : decode cX2_lay 106 = .ok (.getfield 28, 3) := by decide +kernel
theorem dX2_lay_109 : decode cX2_lay 109 = .ok (.aload_n 0, 1) := by decide +kernel
theorem dX2_lay_110 : decode cX2_lay 110 = .ok (.getfield 18, 3) := by decide +kernel
theorem dX2_lay_113 : decode cX2_lay 113 = .ok (.iload_n 3, 1) := by decide +kernel
theorem dX2_lay_114 : decode cX2_lay 114 = .ok (.iaload, 1) := by decide +kernel
theorem dX2_lay_115 : decode cX2_lay 115 = .ok (.iconst 1, 1) := by decide +kernel
theorem dX2_lay_116 : decode cX2_lay 116 = .ok (.iadd, 1) := by decide +kernel
theorem dX2_lay_117 : decode cX2_lay 117 = .ok (.invokestatic 48, 3) := by decide +kernel
theorem dX2_lay_120 : decode cX2_lay 120 = .ok (.putfield 28, 3) := by decide +kernel
theorem dX2_lay_123 : decode cX2_lay 123 = .ok (.iinc 3 1, 3) := by decide +kernel
theorem dX2_lay_126 : decode cX2_lay 126 = .ok (.goto (-106), 3) := by decide +kernel
theorem dX2_lay_129 : decode cX2_lay 129 = .ok (.iconst 0, 1) := by decide +kernel
theorem dX2_lay_130 : decode cX2_lay 130 = .ok (.istore_n 3, 1) := by decide +kernel
theorem dX2_lay_131 : decode cX2_lay 131 = .ok (.iload_n 3, 1) := by decide +kernel
theorem dX2_lay_132 : decode cX2_lay 132 = .ok (.aload_n 0, 1) := by decide +kernel
theorem dX2_lay_133 : decode cX2_lay 133 = .ok (.getfield 12, 3) := by decide +kernel
theorem dX2_lay_136 : decode cX2_lay 136 = .ok (.getfield 39, 3) := by decide +kernel
theorem dX2_lay_139 : decode cX2_lay 139 = .ok (.if_icmp .ge 21, 3) := by decide +kernel
theorem dX2_lay_142 : decode cX2_lay 142 = .ok (.aload_n 0, 1) := by decide +kernel
theorem dX2_lay_143 : decode cX2_lay 143 = .ok (.getfield 22, 3) := by decide +kernel
theorem dX2_lay_146 : decode cX2_lay 146 = .ok (.iload_n 3, 1) := by decide +kernel
theorem dX2_lay_147 : decode cX2_lay 147 = .ok (.aload_n 0, 1) := by decide +kernel
theorem dX2_lay_148 : decode cX2_lay 148 = .ok (.iload_n 3, 1) := by decide +kernel
theorem dX2_lay_149 : decode cX2_lay 149 = .ok (.iconst 2, 1) := by decide +kernel
theorem dX2_lay_150 : decode cX2_lay 150 = .ok (.invokevirtual 54, 3) := by decide +kernel
theorem dX2_lay_153 : decode cX2_lay 153 = .ok (.iastore, 1) := by decide +kernel
theorem dX2_lay_154 : decode cX2_lay 154 = .ok (.iinc 3 1, 3) := by decide +kernel
theorem dX2_lay_157 : decode cX2_lay 157 = .ok (.goto (-26), 3) := by decide +kernel
theorem dX2_lay_160 : decode cX2_lay 160 = .ok (.return_, 1) := by decide +kernel
theorem dX2_arrange_0 : decode cX2_arrange 0 = .ok (.iconst 0, 1) := by decide +kernel
theorem dX2_arrange_1 : decode cX2_arrange 1 = .ok (.istore_n 2, 1) := by decide +kernel
theorem dX2_arrange_2 : decode cX2_arrange 2 = .ok (.iload_n 2, 1) := by decide +kernel
theorem dX2_arrange_3 : decode cX2_arrange 3 = .ok (.aload_n 0, 1) := by decide +kernel
theorem dX2_arrange_4 : decode cX2_arrange 4 = .ok (.getfield 12, 3) := by decide +kernel
theorem dX2_arrange_7 : decode cX2_arrange 7 = .ok (.getfield 39, 3) := by decide +kernel
theorem dX2_arrange_10 : decode cX2_arrange 10 = .ok (.if_icmp .ge 21, 3) := by decide +kernel
theorem dX2_arrange_13 : decode cX2_arrange 13 = .ok (.aload_n 0, 1) := by decide +kernel
theorem dX2_arrange_14 : decode cX2_arrange 14 = .ok (.getfield 25, 3) := by decide +kernel
theorem dX2_arrange_17 : decode cX2_arrange 17 = .ok (.aload_n 0, 1) := by decide +kernel
theorem dX2_arrange_18 : decode cX2_arrange 18 = .ok (.iload_n 2, 1) := by decide +kernel
theorem dX2_arrange_19 : decode cX2_arrange 19 = .ok (.iload_n 1, 1) := by decide +kernel
theorem dX2_arrange_20 : decode cX2_arrange 20 = .ok (.invokevirtual 54, 3) := by decide +kernel
theorem dX2_arrange_23 : decode cX2_arrange 23 = .ok (.iload_n 2, 1) := by decide +kernel
theorem dX2_arrange_24 : decode cX2_arrange 24 = .ok (.iastore, 1) := by decide +kernel
theorem dX2_arrange_25 : decode cX2_arrange 25 = .ok (.iinc 2 1, 3) := by decide +kernel
theorem dX2_arrange_28 : decode cX2_arrange 28 = .ok (.goto (-26), 3) := by decide +kernel
theorem dX2_arrange_31 : decode cX2_arrange 31 = .ok (.return_, 1) := by decide +kernel
theorem dX2_mostOfOneStage_0 : decode cX2_mostOfOneStage 0 = .ok (.iconst 0, 1) := by decide +kernel
theorem dX2_mostOfOneStage_1 : decode cX2_mostOfOneStage 1 = .ok (.istore_n 1, 1) := by decide +kernel
theorem dX2_mostOfOneStage_2 : decode cX2_mostOfOneStage 2 = .ok (.iconst 0, 1) := by decide +kernel
theorem dX2_mostOfOneStage_3 : decode cX2_mostOfOneStage 3 = .ok (.istore_n 2, 1) := by decide +kernel
theorem dX2_mostOfOneStage_4 : decode cX2_mostOfOneStage 4 = .ok (.iload_n 2, 1) := by decide +kernel
theorem dX2_mostOfOneStage_5 : decode cX2_mostOfOneStage 5 = .ok (.aload_n 0, 1) := by decide +kernel
theorem dX2_mostOfOneStage_6 : decode cX2_mostOfOneStage 6 = .ok (.getfield 28, 3) := by decide +kernel
theorem dX2_mostOfOneStage_9 : decode cX2_mostOfOneStage 9 = .ok (.if_icmp .ge 19, 3) := by decide +kernel
theorem dX2_mostOfOneStage_12 : decode cX2_mostOfOneStage 12 = .ok (.iload_n 1, 1) := by decide +kernel
theorem dX2_mostOfOneStage_13 : decode cX2_mostOfOneStage 13 = .ok (.aload_n 0, 1) := by decide +kernel
theorem dX2_mostOfOneStage_14 : decode cX2_mostOfOneStage 14 = .ok (.iload_n 2, 1) := by decide +kernel
theorem dX2_mostOfOneStage_15 : decode cX2_mostOfOneStage 15 = .ok (.invokevirtual 57, 3) := by decide +kernel
theorem dX2_mostOfOneStage_18 : decode cX2_mostOfOneStage 18 = .ok (.invokestatic 48, 3) := by decide +kernel
theorem dX2_mostOfOneStage_21 : decode cX2_mostOfOneStage 21 = .ok (.istore_n 1, 1) := by decide +kernel
theorem dX2_mostOfOneStage_22 : decode cX2_mostOfOneStage 22 = .ok (.iinc 2 1, 3) := by decide +kernel
theorem dX2_mostOfOneStage_25 : decode cX2_mostOfOneStage 25 = .ok (.goto (-21), 3) := by decide +kernel
theorem dX2_mostOfOneStage_28 : decode cX2_mostOfOneStage 28 = .ok (.iload_n 1, 1) := by decide +kernel
theorem dX2_mostOfOneStage_29 : decode cX2_mostOfOneStage 29 = .ok (.ireturn, 1) := by decide +kernel
theorem dX2_firstFullestStage_0 : decode cX2_firstFullestStage 0 = .ok (.aload_n 0, 1) := by decide +kernel
theorem dX2_firstFullestStage_1 : decode cX2_firstFullestStage 1 = .ok (.invokevirtual 61, 3) := by decide +kernel
theorem dX2_firstFullestStage_4 : decode cX2_firstFullestStage 4 = .ok (.istore_n 1, 1) := by decide +kernel
theorem dX2_firstFullestStage_5 : decode cX2_firstFullestStage 5 = .ok (.iconst 0, 1) := by decide +kernel
theorem dX2_firstFullestStage_6 : decode cX2_firstFullestStage 6 = .ok (.istore_n 2, 1) := by decide +kernel
theorem dX2_firstFullestStage_7 : decode cX2_firstFullestStage 7 = .ok (.iload_n 2, 1) := by decide +kernel
theorem dX2_firstFullestStage_8 : decode cX2_firstFullestStage 8 = .ok (.aload_n 0, 1) := by decide +kernel
theorem dX2_firstFullestStage_9 : decode cX2_firstFullestStage 9 = .ok (.getfield 28, 3) := by decide +kernel
theorem dX2_firstFullestStage_12 : decode cX2_firstFullestStage 12 = .ok (.if_icmp .ge 20, 3) := by decide +kernel
theorem dX2_firstFullestStage_15 : decode cX2_firstFullestStage 15 = .ok (.aload_n 0, 1) := by decide +kernel
theorem dX2_firstFullestStage_16 : decode cX2_firstFullestStage 16 = .ok (.iload_n 2, 1) := by decide +kernel
theorem dX2_firstFullestStage_17 : decode cX2_firstFullestStage 17 = .ok (.invokevirtual 57, 3) := by decide +kernel
theorem dX2_firstFullestStage_20 : decode cX2_firstFullestStage 20 = .ok (.iload_n 1, 1) := by decide +kernel
theorem dX2_firstFullestStage_21 : decode cX2_firstFullestStage 21 = .ok (.if_icmp .ne 5, 3) := by decide +kernel
theorem dX2_firstFullestStage_24 : decode cX2_firstFullestStage 24 = .ok (.iload_n 2, 1) := by decide +kernel
theorem dX2_firstFullestStage_25 : decode cX2_firstFullestStage 25 = .ok (.ireturn, 1) := by decide +kernel
theorem dX2_firstFullestStage_26 : decode cX2_firstFullestStage 26 = .ok (.iinc 2 1, 3) := by decide +kernel
theorem dX2_firstFullestStage_29 : decode cX2_firstFullestStage 29 = .ok (.goto (-22), 3) := by decide +kernel
theorem dX2_firstFullestStage_32 : decode cX2_firstFullestStage 32 = .ok (.bipush (-6), 2) := by decide +kernel
theorem dX2_firstFullestStage_34 : decode cX2_firstFullestStage 34 = .ok (.ireturn, 1) := by decide +kernel
theorem dX2_isNormal_0 : decode cX2_isNormal 0 = .ok (.iconst 0, 1) := by decide +kernel
theorem dX2_isNormal_1 : decode cX2_isNormal 1 = .ok (.istore_n 1, 1) := by decide +kernel
theorem dX2_isNormal_2 : decode cX2_isNormal 2 = .ok (.iload_n 1, 1) := by decide +kernel
theorem dX2_isNormal_3 : decode cX2_isNormal 3 = .ok (.aload_n 0, 1) := by decide +kernel
theorem dX2_isNormal_4 : decode cX2_isNormal 4 = .ok (.getfield 12, 3) := by decide +kernel
theorem dX2_isNormal_7 : decode cX2_isNormal 7 = .ok (.getfield 39, 3) := by decide +kernel
theorem dX2_isNormal_10 : decode cX2_isNormal 10 = .ok (.if_icmp .ge 21, 3) := by decide +kernel
theorem dX2_isNormal_13 : decode cX2_isNormal 13 = .ok (.aload_n 0, 1) := by decide +kernel
theorem dX2_isNormal_14 : decode cX2_isNormal 14 = .ok (.getfield 22, 3) := by decide +kernel
theorem dX2_isNormal_17 : decode cX2_isNormal 17 = .ok (.iload_n 1, 1) := by decide +kernel
theorem dX2_isNormal_18 : decode cX2_isNormal 18 = .ok (.iaload, 1) := by decide +kernel
theorem dX2_isNormal_19 : decode cX2_isNormal 19 = .ok (.iload_n 1, 1) := by decide +kernel
theorem dX2_isNormal_20 : decode cX2_isNormal 20 = .ok (.if_icmp .eq 5, 3) := by decide +kernel
theorem dX2_isNormal_23 : decode cX2_isNormal 23 = .ok (.iconst 0, 1) := by decide +kernel
theorem dX2_isNormal_24 : decode cX2_isNormal 24 = .ok (.ireturn, 1) := by decide +kernel
theorem dX2_isNormal_25 : decode cX2_isNormal 25 = .ok (.iinc 1 1, 3) := by decide +kernel
theorem dX2_isNormal_28 : decode cX2_isNormal 28 = .ok (.goto (-26), 3) := by decide +kernel
theorem dX2_isNormal_31 : decode cX2_isNormal 31 = .ok (.iconst 1, 1) := by decide +kernel
theorem dX2_isNormal_32 : decode cX2_isNormal 32 = .ok (.ireturn, 1) := by decide +kernel
theorem dX2_sameNormalForm_0 : decode cX2_sameNormalForm 0 = .ok (.aload_n 0, 1) := by decide +kernel
theorem dX2_sameNormalForm_1 : decode cX2_sameNormalForm 1 = .ok (.getfield 12, 3) := by decide +kernel
theorem dX2_sameNormalForm_4 : decode cX2_sameNormalForm 4 = .ok (.getfield 39, 3) := by decide +kernel
theorem dX2_sameNormalForm_7 : decode cX2_sameNormalForm 7 = .ok (.aload_n 1, 1) := by decide +kernel
theorem dX2_sameNormalForm_8 : decode cX2_sameNormalForm 8 = .ok (.getfield 12, 3) := by decide +kernel
theorem dX2_sameNormalForm_11 : decode cX2_sameNormalForm 11 = .ok (.getfield 39, 3) := by decide +kernel
theorem dX2_sameNormalForm_14 : decode cX2_sameNormalForm 14 = .ok (.if_icmp .eq 5, 3) := by decide +kernel
theorem dX2_sameNormalForm_17 : decode cX2_sameNormalForm 17 = .ok (.iconst 0, 1) := by decide +kernel
theorem dX2_sameNormalForm_18 : decode cX2_sameNormalForm 18 = .ok (.ireturn, 1) := by decide +kernel
theorem dX2_sameNormalForm_19 : decode cX2_sameNormalForm 19 = .ok (.aload_n 0, 1) := by decide +kernel
theorem dX2_sameNormalForm_20 : decode cX2_sameNormalForm 20 = .ok (.iconst 2, 1) := by decide +kernel
theorem dX2_sameNormalForm_21 : decode cX2_sameNormalForm 21 = .ok (.invokevirtual 65, 3) := by decide +kernel
theorem dX2_sameNormalForm_24 : decode cX2_sameNormalForm 24 = .ok (.aload_n 1, 1) := by decide +kernel
theorem dX2_sameNormalForm_25 : decode cX2_sameNormalForm 25 = .ok (.iconst 2, 1) := by decide +kernel
theorem dX2_sameNormalForm_26 : decode cX2_sameNormalForm 26 = .ok (.invokevirtual 65, 3) := by decide +kernel
theorem dX2_sameNormalForm_29 : decode cX2_sameNormalForm 29 = .ok (.iconst 0, 1) := by decide +kernel
theorem dX2_sameNormalForm_30 : decode cX2_sameNormalForm 30 = .ok (.istore_n 2, 1) := by decide +kernel
theorem dX2_sameNormalForm_31 : decode cX2_sameNormalForm 31 = .ok (.iload_n 2, 1) := by decide +kernel
theorem dX2_sameNormalForm_32 : decode cX2_sameNormalForm 32 = .ok (.aload_n 0, 1) := by decide +kernel
theorem dX2_sameNormalForm_33 : decode cX2_sameNormalForm 33 = .ok (.getfield 12, 3) := by decide +kernel
theorem dX2_sameNormalForm_36 : decode cX2_sameNormalForm 36 = .ok (.getfield 39, 3) := by decide +kernel
theorem dX2_sameNormalForm_39 : decode cX2_sameNormalForm 39 = .ok (.if_icmp .ge 70, 3) := by decide +kernel
theorem dX2_sameNormalForm_42 : decode cX2_sameNormalForm 42 = .ok (.aload_n 0, 1) := by decide +kernel
theorem dX2_sameNormalForm_43 : decode cX2_sameNormalForm 43 = .ok (.getfield 25, 3) := by decide +kernel
theorem dX2_sameNormalForm_46 : decode cX2_sameNormalForm 46 = .ok (.iload_n 2, 1) := by decide +kernel
theorem dX2_sameNormalForm_47 : decode cX2_sameNormalForm 47 = .ok (.iaload, 1) := by decide +kernel
theorem dX2_sameNormalForm_48 : decode cX2_sameNormalForm 48 = .ok (.istore_n 3, 1) := by decide +kernel
theorem dX2_sameNormalForm_49 : decode cX2_sameNormalForm 49 = .ok (.aload_n 1, 1) := by decide +kernel
theorem dX2_sameNormalForm_50 : decode cX2_sameNormalForm 50 = .ok (.getfield 25, 3) := by decide +kernel
theorem dX2_sameNormalForm_53 : decode cX2_sameNormalForm 53 = .ok (.iload_n 2, 1) := by decide +kernel
theorem dX2_sameNormalForm_54 : decode cX2_sameNormalForm 54 = .ok (.iaload, 1) := by decide +kernel
theorem dX2_sameNormalForm_55 : decode cX2_sameNormalForm 55 = .ok (.istore 4, 2) := by decide +kernel
theorem dX2_sameNormalForm_57 : decode cX2_sameNormalForm 57 = .ok (.aload_n 0, 1) := by decide +kernel
theorem dX2_sameNormalForm_58 : decode cX2_sameNormalForm 58 = .ok (.getfield 12, 3) := by decide +kernel
theorem dX2_sameNormalForm_61 : decode cX2_sameNormalForm 61 = .ok (.getfield 69, 3) := by decide +kernel
theorem dX2_sameNormalForm_64 : decode cX2_sameNormalForm 64 = .ok (.iload_n 3, 1) := by decide +kernel
theorem dX2_sameNormalForm_65 : decode cX2_sameNormalForm 65 = .ok (.iaload, 1) := by decide +kernel
theorem dX2_sameNormalForm_66 : decode cX2_sameNormalForm 66 = .ok (.aload_n 1, 1) := by decide +kernel
theorem dX2_sameNormalForm_67 : decode cX2_sameNormalForm 67 = .ok (.getfield 12, 3) := by decide +kernel
theorem dX2_sameNormalForm_70 : decode cX2_sameNormalForm 70 = .ok (.getfield 69, 3) := by decide +kernel
theorem dX2_sameNormalForm_73 : decode cX2_sameNormalForm 73 = .ok (.iload 4, 2) := by decide +kernel
theorem dX2_sameNormalForm_75 : decode cX2_sameNormalForm 75 = .ok (.iaload, 1) := by decide +kernel
theorem dX2_sameNormalForm_76 : decode cX2_sameNormalForm 76 = .ok (.if_icmp .ne 25, 3) := by decide +kernel
theorem dX2_sameNormalForm_79 : decode cX2_sameNormalForm 79 = .ok (.aload_n 0, 1) := by decide +kernel
theorem dX2_sameNormalForm_80 : decode cX2_sameNormalForm 80 = .ok (.getfield 12, 3) := by decide +kernel
theorem dX2_sameNormalForm_83 : decode cX2_sameNormalForm 83 = .ok (.getfield 72, 3) := by decide +kernel
theorem dX2_sameNormalForm_86 : decode cX2_sameNormalForm 86 = .ok (.iload_n 3, 1) := by decide +kernel
theorem dX2_sameNormalForm_87 : decode cX2_sameNormalForm 87 = .ok (.iaload, 1) := by decide +kernel
theorem dX2_sameNormalForm_88 : decode cX2_sameNormalForm 88 = .ok (.aload_n 1, 1) := by decide +kernel
theorem dX2_sameNormalForm_89 : decode cX2_sameNormalForm 89 = .ok (.getfield 12, 3) := by decide +kernel
theorem dX2_sameNormalForm_92 : decode cX2_sameNormalForm 92 = .ok (.getfield 72, 3) := by decide +kernel
theorem dX2_sameNormalForm_95 : decode cX2_sameNormalForm 95 = .ok (.iload 4, 2) := by decide +kernel
theorem dX2_sameNormalForm_97 : decode cX2_sameNormalForm 97 = .ok (.iaload, 1) := by decide +kernel
theorem dX2_sameNormalForm_98 : decode cX2_sameNormalForm 98 = .ok (.if_icmp .eq 5, 3) := by decide +kernel
theorem dX2_sameNormalForm_101 : decode cX2_sameNormalForm 101 = .ok (.iconst 0, 1) := by decide +kernel
theorem dX2_sameNormalForm_102 : decode cX2_sameNormalForm 102 = .ok (.ireturn, 1) := by decide +kernel
theorem dX2_sameNormalForm_103 : decode cX2_sameNormalForm 103 = .ok (.iinc 2 1, 3) := by decide +kernel
theorem dX2_sameNormalForm_106 : decode cX2_sameNormalForm 106 = .ok (.goto (-75), 3) := by decide +kernel
theorem dX2_sameNormalForm_109 : decode cX2_sameNormalForm 109 = .ok (.iconst 1, 1) := by decide +kernel
theorem dX2_sameNormalForm_110 : decode cX2_sameNormalForm 110 = .ok (.ireturn, 1) := by decide +kernel
theorem dX2_sizeOfStage_0 : decode cX2_sizeOfStage 0 = .ok (.iconst 0, 1) := by decide +kernel
theorem dX2_sizeOfStage_1 : decode cX2_sizeOfStage 1 = .ok (.istore_n 2, 1) := by decide +kernel
theorem dX2_sizeOfStage_2 : decode cX2_sizeOfStage 2 = .ok (.iconst 0, 1) := by decide +kernel
theorem dX2_sizeOfStage_3 : decode cX2_sizeOfStage 3 = .ok (.istore_n 3, 1) := by decide +kernel
theorem dX2_sizeOfStage_4 : decode cX2_sizeOfStage 4 = .ok (.iload_n 3, 1) := by decide +kernel
theorem dX2_sizeOfStage_5 : decode cX2_sizeOfStage 5 = .ok (.aload_n 0, 1) := by decide +kernel
theorem dX2_sizeOfStage_6 : decode cX2_sizeOfStage 6 = .ok (.getfield 12, 3) := by decide +kernel
theorem dX2_sizeOfStage_9 : decode cX2_sizeOfStage 9 = .ok (.getfield 39, 3) := by decide +kernel
theorem dX2_sizeOfStage_12 : decode cX2_sizeOfStage 12 = .ok (.if_icmp .ge 22, 3) := by decide +kernel
theorem dX2_sizeOfStage_15 : decode cX2_sizeOfStage 15 = .ok (.aload_n 0, 1) := by decide +kernel
theorem dX2_sizeOfStage_16 : decode cX2_sizeOfStage 16 = .ok (.getfield 18, 3) := by decide +kernel
theorem dX2_sizeOfStage_19 : decode cX2_sizeOfStage 19 = .ok (.iload_n 3, 1) := by decide +kernel
theorem dX2_sizeOfStage_20 : decode cX2_sizeOfStage 20 = .ok (.iaload, 1) := by decide +kernel
theorem dX2_sizeOfStage_21 : decode cX2_sizeOfStage 21 = .ok (.iload_n 1, 1) := by decide +kernel
theorem dX2_sizeOfStage_22 : decode cX2_sizeOfStage 22 = .ok (.if_icmp .ne 6, 3) := by decide +kernel
theorem dX2_sizeOfStage_25 : decode cX2_sizeOfStage 25 = .ok (.iinc 2 1, 3) := by decide +kernel
theorem dX2_sizeOfStage_28 : decode cX2_sizeOfStage 28 = .ok (.iinc 3 1, 3) := by decide +kernel
theorem dX2_sizeOfStage_31 : decode cX2_sizeOfStage 31 = .ok (.goto (-27), 3) := by decide +kernel
theorem dX2_sizeOfStage_34 : decode cX2_sizeOfStage 34 = .ok (.iload_n 2, 1) := by decide +kernel
theorem dX2_sizeOfStage_35 : decode cX2_sizeOfStage 35 = .ok (.ireturn, 1) := by decide +kernel
theorem dX2_position_0 : decode cX2_position 0 = .ok (.iconst 0, 1) := by decide +kernel
theorem dX2_position_1 : decode cX2_position 1 = .ok (.istore_n 3, 1) := by decide +kernel
theorem dX2_position_2 : decode cX2_position 2 = .ok (.iconst 0, 1) := by decide +kernel
theorem dX2_position_3 : decode cX2_position 3 = .ok (.istore 4, 2) := by decide +kernel
theorem dX2_position_5 : decode cX2_position 5 = .ok (.iload 4, 2) := by decide +kernel
theorem dX2_position_7 : decode cX2_position 7 = .ok (.aload_n 0, 1) := by decide +kernel
theorem dX2_position_8 : decode cX2_position 8 = .ok (.getfield 12, 3) := by decide +kernel
theorem dX2_position_11 : decode cX2_position 11 = .ok (.getfield 39, 3) := by decide +kernel
theorem dX2_position_14 : decode cX2_position 14 = .ok (.if_icmp .ge 29, 3) := by decide +kernel
theorem dX2_position_17 : decode cX2_position 17 = .ok (.iload 4, 2) := by decide +kernel
theorem dX2_position_19 : decode cX2_position 19 = .ok (.iload_n 1, 1) := by decide +kernel
theorem dX2_position_20 : decode cX2_position 20 = .ok (.if_icmp .eq 17, 3) := by decide +kernel
theorem dX2_position_23 : decode cX2_position 23 = .ok (.aload_n 0, 1) := by decide +kernel
theorem dX2_position_24 : decode cX2_position 24 = .ok (.iload 4, 2) := by decide +kernel
theorem dX2_position_26 : decode cX2_position 26 = .ok (.iload_n 1, 1) := by decide +kernel
theorem dX2_position_27 : decode cX2_position 27 = .ok (.iload_n 2, 1) := by decide +kernel
theorem dX2_position_28 : decode cX2_position 28 = .ok (.invokevirtual 75, 3) := by decide +kernel
theorem dX2_position_31 : decode cX2_position 31 = .ok (.ifCond .eq 6, 3) := by decide +kernel
theorem dX2_position_34 : decode cX2_position 34 = .ok (.iinc 3 1, 3) := by decide +kernel
theorem dX2_position_37 : decode cX2_position 37 = .ok (.iinc 4 1, 3) := by decide +kernel
theorem dX2_position_40 : decode cX2_position 40 = .ok (.goto (-35), 3) := by decide +kernel
theorem dX2_position_43 : decode cX2_position 43 = .ok (.iload_n 3, 1) := by decide +kernel
theorem dX2_position_44 : decode cX2_position 44 = .ok (.ireturn, 1) := by decide +kernel
theorem dX2_goesAhead_0 : decode cX2_goesAhead 0 = .ok (.iload_n 3, 1) := by decide +kernel
theorem dX2_goesAhead_1 : decode cX2_goesAhead 1 = .ok (.ifCond .ne 14, 3) := by decide +kernel
theorem dX2_goesAhead_4 : decode cX2_goesAhead 4 = .ok (.iload_n 1, 1) := by decide +kernel
theorem dX2_goesAhead_5 : decode cX2_goesAhead 5 = .ok (.iload_n 2, 1) := by decide +kernel
theorem dX2_goesAhead_6 : decode cX2_goesAhead 6 = .ok (.if_icmp .ge 7, 3) := by decide +kernel
theorem dX2_goesAhead_9 : decode cX2_goesAhead 9 = .ok (.iconst 1, 1) := by decide +kernel
theorem dX2_goesAhead_10 : decode cX2_goesAhead 10 = .ok (.goto 4, 3) := by decide +kernel
theorem dX2_goesAhead_13 : decode cX2_goesAhead 13 = .ok (.iconst 0, 1) := by decide +kernel
theorem dX2_goesAhead_14 : decode cX2_goesAhead 14 = .ok (.ireturn, 1) := by decide +kernel
theorem dX2_goesAhead_15 : decode cX2_goesAhead 15 = .ok (.aload_n 0, 1) := by decide +kernel
theorem dX2_goesAhead_16 : decode cX2_goesAhead 16 = .ok (.getfield 18, 3) := by decide +kernel
theorem dX2_goesAhead_19 : decode cX2_goesAhead 19 = .ok (.iload_n 1, 1) := by decide +kernel
theorem dX2_goesAhead_20 : decode cX2_goesAhead 20 = .ok (.iaload, 1) := by decide +kernel
theorem dX2_goesAhead_21 : decode cX2_goesAhead 21 = .ok (.aload_n 0, 1) := by decide +kernel
theorem dX2_goesAhead_22 : decode cX2_goesAhead 22 = .ok (.getfield 18, 3) := by decide +kernel
theorem dX2_goesAhead_25 : decode cX2_goesAhead 25 = .ok (.iload_n 2, 1) := by decide +kernel
theorem dX2_goesAhead_26 : decode cX2_goesAhead 26 = .ok (.iaload, 1) := by decide +kernel
theorem dX2_goesAhead_27 : decode cX2_goesAhead 27 = .ok (.if_icmp .eq 24, 3) := by decide +kernel
theorem dX2_goesAhead_30 : decode cX2_goesAhead 30 = .ok (.aload_n 0, 1) := by decide +kernel
theorem dX2_goesAhead_31 : decode cX2_goesAhead 31 = .ok (.getfield 18, 3) := by decide +kernel
theorem dX2_goesAhead_34 : decode cX2_goesAhead 34 = .ok (.iload_n 1, 1) := by decide +kernel
theorem dX2_goesAhead_35 : decode cX2_goesAhead 35 = .ok (.iaload, 1) := by decide +kernel
theorem dX2_goesAhead_36 : decode cX2_goesAhead 36 = .ok (.aload_n 0, 1) := by decide +kernel
theorem dX2_goesAhead_37 : decode cX2_goesAhead 37 = .ok (.getfield 18, 3) := by decide +kernel
theorem dX2_goesAhead_40 : decode cX2_goesAhead 40 = .ok (.iload_n 2, 1) := by decide +kernel
theorem dX2_goesAhead_41 : decode cX2_goesAhead 41 = .ok (.iaload, 1) := by decide +kernel
theorem dX2_goesAhead_42 : decode cX2_goesAhead 42 = .ok (.if_icmp .ge 7, 3) := by decide +kernel
theorem dX2_goesAhead_45 : decode cX2_goesAhead 45 = .ok (.iconst 1, 1) := by decide +kernel
theorem dX2_goesAhead_46 : decode cX2_goesAhead 46 = .ok (.goto 4, 3) := by decide +kernel
theorem dX2_goesAhead_49 : decode cX2_goesAhead 49 = .ok (.iconst 0, 1) := by decide +kernel
theorem dX2_goesAhead_50 : decode cX2_goesAhead 50 = .ok (.ireturn, 1) := by decide +kernel
theorem dX2_goesAhead_51 : decode cX2_goesAhead 51 = .ok (.iload_n 3, 1) := by decide +kernel
theorem dX2_goesAhead_52 : decode cX2_goesAhead 52 = .ok (.iconst 1, 1) := by decide +kernel
theorem dX2_goesAhead_53 : decode cX2_goesAhead 53 = .ok (.if_icmp .ne 14, 3) := by decide +kernel
theorem dX2_goesAhead_56 : decode cX2_goesAhead 56 = .ok (.iload_n 1, 1) := by decide +kernel
theorem dX2_goesAhead_57 : decode cX2_goesAhead 57 = .ok (.iload_n 2, 1) := by decide +kernel
theorem dX2_goesAhead_58 : decode cX2_goesAhead 58 = .ok (.if_icmp .le 7, 3) := by decide +kernel
theorem dX2_goesAhead_61 : decode cX2_goesAhead 61 = .ok (.iconst 1, 1) := by decide +kernel
theorem dX2_goesAhead_62 : decode cX2_goesAhead 62 = .ok (.goto 4, 3) := by decide +kernel
theorem dX2_goesAhead_65 : decode cX2_goesAhead 65 = .ok (.iconst 0, 1) := by decide +kernel
theorem dX2_goesAhead_66 : decode cX2_goesAhead 66 = .ok (.ireturn, 1) := by decide +kernel
theorem dX2_goesAhead_67 : decode cX2_goesAhead 67 = .ok (.aload_n 0, 1) := by decide +kernel
theorem dX2_goesAhead_68 : decode cX2_goesAhead 68 = .ok (.getfield 12, 3) := by decide +kernel
theorem dX2_goesAhead_71 : decode cX2_goesAhead 71 = .ok (.getfield 69, 3) := by decide +kernel
theorem dX2_goesAhead_74 : decode cX2_goesAhead 74 = .ok (.iload_n 1, 1) := by decide +kernel
theorem dX2_goesAhead_75 : decode cX2_goesAhead 75 = .ok (.iaload, 1) := by decide +kernel
theorem dX2_goesAhead_76 : decode cX2_goesAhead 76 = .ok (.aload_n 0, 1) := by decide +kernel
theorem dX2_goesAhead_77 : decode cX2_goesAhead 77 = .ok (.getfield 12, 3) := by decide +kernel
theorem dX2_goesAhead_80 : decode cX2_goesAhead 80 = .ok (.getfield 69, 3) := by decide +kernel
theorem dX2_goesAhead_83 : decode cX2_goesAhead 83 = .ok (.iload_n 2, 1) := by decide +kernel
theorem dX2_goesAhead_84 : decode cX2_goesAhead 84 = .ok (.iaload, 1) := by decide +kernel
theorem dX2_goesAhead_85 : decode cX2_goesAhead 85 = .ok (.if_icmp .eq 30, 3) := by decide +kernel
theorem dX2_goesAhead_88 : decode cX2_goesAhead 88 = .ok (.aload_n 0, 1) := by decide +kernel
theorem dX2_goesAhead_89 : decode cX2_goesAhead 89 = .ok (.getfield 12, 3) := by decide +kernel
theorem dX2_goesAhead_92 : decode cX2_goesAhead 92 = .ok (.getfield 69, 3) := by decide +kernel
theorem dX2_goesAhead_95 : decode cX2_goesAhead 95 = .ok (.iload_n 1, 1) := by decide +kernel
theorem dX2_goesAhead_96 : decode cX2_goesAhead 96 = .ok (.iaload, 1) := by decide +kernel
theorem dX2_goesAhead_97 : decode cX2_goesAhead 97 = .ok (.aload_n 0, 1) := by decide +kernel
theorem dX2_goesAhead_98 : decode cX2_goesAhead 98 = .ok (.getfield 12, 3) := by decide +kernel
theorem dX2_goesAhead_101 : decode cX2_goesAhead 101 = .ok (.getfield 69, 3) := by decide +kernel
theorem dX2_goesAhead_104 : decode cX2_goesAhead 104 = .ok (.iload_n 2, 1) := by decide +kernel
theorem dX2_goesAhead_105 : decode cX2_goesAhead 105 = .ok (.iaload, 1) := by decide +kernel
theorem dX2_goesAhead_106 : decode cX2_goesAhead 106 = .ok (.if_icmp .ge 7, 3) := by decide +kernel
theorem dX2_goesAhead_109 : decode cX2_goesAhead 109 = .ok (.iconst 1, 1) := by decide +kernel
theorem dX2_goesAhead_110 : decode cX2_goesAhead 110 = .ok (.goto 4, 3) := by decide +kernel
theorem dX2_goesAhead_113 : decode cX2_goesAhead 113 = .ok (.iconst 0, 1) := by decide +kernel
theorem dX2_goesAhead_114 : decode cX2_goesAhead 114 = .ok (.ireturn, 1) := by decide +kernel
theorem dX2_goesAhead_115 : decode cX2_goesAhead 115 = .ok (.aload_n 0, 1) := by decide +kernel
theorem dX2_goesAhead_116 : decode cX2_goesAhead 116 = .ok (.getfield 12, 3) := by decide +kernel
theorem dX2_goesAhead_119 : decode cX2_goesAhead 119 = .ok (.getfield 72, 3) := by decide +kernel
theorem dX2_goesAhead_122 : decode cX2_goesAhead 122 = .ok (.iload_n 1, 1) := by decide +kernel
theorem dX2_goesAhead_123 : decode cX2_goesAhead 123 = .ok (.iaload, 1) := by decide +kernel
theorem dX2_goesAhead_124 : decode cX2_goesAhead 124 = .ok (.aload_n 0, 1) := by decide +kernel
theorem dX2_goesAhead_125 : decode cX2_goesAhead 125 = .ok (.getfield 12, 3) := by decide +kernel
theorem dX2_goesAhead_128 : decode cX2_goesAhead 128 = .ok (.getfield 72, 3) := by decide +kernel
theorem dX2_goesAhead_131 : decode cX2_goesAhead 131 = .ok (.iload_n 2, 1) := by decide +kernel
theorem dX2_goesAhead_132 : decode cX2_goesAhead 132 = .ok (.iaload, 1) := by decide +kernel
theorem dX2_goesAhead_133 : decode cX2_goesAhead 133 = .ok (.if_icmp .eq 30, 3) := by decide +kernel
theorem dX2_goesAhead_136 : decode cX2_goesAhead 136 = .ok (.aload_n 0, 1) := by decide +kernel
theorem dX2_goesAhead_137 : decode cX2_goesAhead 137 = .ok (.getfield 12, 3) := by decide +kernel
theorem dX2_goesAhead_140 : decode cX2_goesAhead 140 = .ok (.getfield 72, 3) := by decide +kernel
theorem dX2_goesAhead_143 : decode cX2_goesAhead 143 = .ok (.iload_n 1, 1) := by decide +kernel
theorem dX2_goesAhead_144 : decode cX2_goesAhead 144 = .ok (.iaload, 1) := by decide +kernel
theorem dX2_goesAhead_145 : decode cX2_goesAhead 145 = .ok (.aload_n 0, 1) := by decide +kernel
theorem dX2_goesAhead_146 : decode cX2_goesAhead 146 = .ok (.getfield 12, 3) := by decide +kernel
theorem dX2_goesAhead_149 : decode cX2_goesAhead 149 = .ok (.getfield 72, 3) := by decide +kernel
theorem dX2_goesAhead_152 : decode cX2_goesAhead 152 = .ok (.iload_n 2, 1) := by decide +kernel
theorem dX2_goesAhead_153 : decode cX2_goesAhead 153 = .ok (.iaload, 1) := by decide +kernel
theorem dX2_goesAhead_154 : decode cX2_goesAhead 154 = .ok (.if_icmp .ge 7, 3) := by decide +kernel
theorem dX2_goesAhead_157 : decode cX2_goesAhead 157 = .ok (.iconst 1, 1) := by decide +kernel
theorem dX2_goesAhead_158 : decode cX2_goesAhead 158 = .ok (.goto 4, 3) := by decide +kernel
theorem dX2_goesAhead_161 : decode cX2_goesAhead 161 = .ok (.iconst 0, 1) := by decide +kernel
theorem dX2_goesAhead_162 : decode cX2_goesAhead 162 = .ok (.ireturn, 1) := by decide +kernel
theorem dX2_goesAhead_163 : decode cX2_goesAhead 163 = .ok (.iload_n 1, 1) := by decide +kernel
theorem dX2_goesAhead_164 : decode cX2_goesAhead 164 = .ok (.iload_n 2, 1) := by decide +kernel
theorem dX2_goesAhead_165 : decode cX2_goesAhead 165 = .ok (.if_icmp .ge 7, 3) := by decide +kernel
theorem dX2_goesAhead_168 : decode cX2_goesAhead 168 = .ok (.iconst 1, 1) := by decide +kernel
theorem dX2_goesAhead_169 : decode cX2_goesAhead 169 = .ok (.goto 4, 3) := by decide +kernel
theorem dX2_goesAhead_172 : decode cX2_goesAhead 172 = .ok (.iconst 0, 1) := by decide +kernel
theorem dX2_goesAhead_173 : decode cX2_goesAhead 173 = .ok (.ireturn, 1) := by decide +kernel
theorem dX3_init_0 : decode cX3_init 0 = .ok (.aload_n 0, 1) := by decide +kernel
theorem dX3_init_1 : decode cX3_init 1 = .ok (.invokespecial 3, 3) := by decide +kernel
theorem dX3_init_4 : decode cX3_init 4 = .ok (.aload_n 0, 1) := by decide +kernel
theorem dX3_init_5 : decode cX3_init 5 = .ok (.bipush 18, 2) := by decide +kernel
theorem dX3_init_7 : decode cX3_init 7 = .ok (.newarray .int, 2) := by decide +kernel
theorem dX3_init_9 : decode cX3_init 9 = .ok (.putfield 9, 3) := by decide +kernel
theorem dX3_init_12 : decode cX3_init 12 = .ok (.aload_n 0, 1) := by decide +kernel
theorem dX3_init_13 : decode cX3_init 13 = .ok (.bipush 16, 2) := by decide +kernel
theorem dX3_init_15 : decode cX3_init 15 = .ok (.newarray .int, 2) := by decide +kernel
theorem dX3_init_17 : decode cX3_init 17 = .ok (.putfield 15, 3) := by decide +kernel
theorem dX3_init_20 : decode cX3_init 20 = .ok (.aload_n 0, 1) := by decide +kernel
theorem dX3_init_21 : decode cX3_init 21 = .ok (.iconst 0, 1) := by decide +kernel
theorem dX3_init_22 : decode cX3_init 22 = .ok (.putfield 18, 3) := by decide +kernel
theorem dX3_init_25 : decode cX3_init 25 = .ok (.aload_n 0, 1) := by decide +kernel
theorem dX3_init_26 : decode cX3_init 26 = .ok (.iconst 0, 1) := by decide +kernel
theorem dX3_init_27 : decode cX3_init 27 = .ok (.putfield 22, 3) := by decide +kernel
theorem dX3_init_30 : decode cX3_init 30 = .ok (.aload_n 0, 1) := by decide +kernel
theorem dX3_init_31 : decode cX3_init 31 = .ok (.iconst 0, 1) := by decide +kernel
theorem dX3_init_32 : decode cX3_init 32 = .ok (.putfield 25, 3) := by decide +kernel
theorem dX3_init_35 : decode cX3_init 35 = .ok (.return_, 1) := by decide +kernel
theorem dX3_perform_0 : decode cX3_perform 0 = .ok (.aload 4, 2) := by decide +kernel
theorem dX3_perform_2 : decode cX3_perform 2 = .ok (.iconst 0, 1) := by decide +kernel
theorem dX3_perform_3 : decode cX3_perform 3 = .ok (.aload_n 0, 1) := by decide +kernel
theorem dX3_perform_4 : decode cX3_perform 4 = .ok (.getfield 9, 3) := by decide +kernel
theorem dX3_perform_7 : decode cX3_perform 7 = .ok (.iconst 0, 1) := by decide +kernel
theorem dX3_perform_8 : decode cX3_perform 8 = .ok (.bipush 18, 2) := by decide +kernel
theorem dX3_perform_10 : decode cX3_perform 10 = .ok (.invokestatic 28, 3) := by decide +kernel
theorem dX3_perform_13 : decode cX3_perform 13 = .ok (.aload_n 0, 1) := by decide +kernel
theorem dX3_perform_14 : decode cX3_perform 14 = .ok (.iconst 0, 1) := by decide +kernel
theorem dX3_perform_15 : decode cX3_perform 15 = .ok (.putfield 18, 3) := by decide +kernel
theorem dX3_perform_18 : decode cX3_perform 18 = .ok (.aload_n 0, 1) := by decide +kernel
theorem dX3_perform_19 : decode cX3_perform 19 = .ok (.iconst 0, 1) := by decide +kernel
theorem dX3_perform_20 : decode cX3_perform 20 = .ok (.putfield 22, 3) := by decide +kernel
theorem dX3_perform_23 : decode cX3_perform 23 = .ok (.iconst 0, 1) := by decide +kernel
theorem dX3_perform_24 : decode cX3_perform 24 = .ok (.istore 5, 2) := by decide +kernel
theorem dX3_perform_26 : decode cX3_perform 26 = .ok (.iload 5, 2) := by decide +kernel
theorem dX3_perform_28 : decode cX3_perform 28 = .ok (.aload_n 2, 1) := by decide +kernel
theorem dX3_perform_29 : decode cX3_perform 29 = .ok (.getfield 34, 3) := by decide +kernel
theorem dX3_perform_32 : decode cX3_perform 32 = .ok (.if_icmp .ge 90, 3) := by decide +kernel
theorem dX3_perform_35 : decode cX3_perform 35 = .ok (.aload_n 3, 1) := by decide +kernel
theorem dX3_perform_36 : decode cX3_perform 36 = .ok (.iload 5, 2) := by decide +kernel
theorem dX3_perform_38 : decode cX3_perform 38 = .ok (.iaload, 1) := by decide +kernel
theorem dX3_perform_39 : decode cX3_perform 39 = .ok (.istore 6, 2) := by decide +kernel
theorem dX3_perform_41 : decode cX3_perform 41 = .ok (.aload_n 0, 1) := by decide +kernel
theorem dX3_perform_42 : decode cX3_perform 42 = .ok (.iconst 0, 1) := by decide +kernel
theorem dX3_perform_43 : decode cX3_perform 43 = .ok (.putfield 25, 3) := by decide +kernel
theorem dX3_perform_46 : decode cX3_perform 46 = .ok (.aload_n 0, 1) := by decide +kernel
theorem dX3_perform_47 : decode cX3_perform 47 = .ok (.aload_n 1, 1) := by decide +kernel
theorem dX3_perform_48 : decode cX3_perform 48 = .ok (.aload_n 2, 1) := by decide +kernel
theorem dX3_perform_49 : decode cX3_perform 49 = .ok (.getfield 39, 3) := by decide +kernel
theorem dX3_perform_52 : decode cX3_perform 52 = .ok (.iload 6, 2) := by decide +kernel
theorem dX3_perform_54 : decode cX3_perform 54 = .ok (.iaload, 1) := by decide +kernel
theorem dX3_perform_55 : decode cX3_perform 55 = .ok (.aload_n 2, 1) := by decide +kernel
theorem dX3_perform_56 : decode cX3_perform 56 = .ok (.getfield 42, 3) := by decide +kernel
theorem dX3_perform_59 : decode cX3_perform 59 = .ok (.iload 6, 2) := by decide +kernel
theorem dX3_perform_61 : decode cX3_perform 61 = .ok (.iaload, 1) := by decide +kernel
theorem dX3_perform_62 : decode cX3_perform 62 = .ok (.iconst 1, 1) := by decide +kernel
theorem dX3_perform_63 : decode cX3_perform 63 = .ok (.invokevirtual 45, 3) := by decide +kernel
theorem dX3_perform_66 : decode cX3_perform 66 = .ok (.istore 7, 2) := by decide +kernel
theorem dX3_perform_68 : decode cX3_perform 68 = .ok (.iload 7, 2) := by decide +kernel
theorem dX3_perform_70 : decode cX3_perform 70 = .ok (.iconst 2, 1) := by decide +kernel
theorem dX3_perform_71 : decode cX3_perform 71 = .ok (.if_icmp .ne 5, 3) := by decide +kernel
theorem dX3_perform_74 : decode cX3_perform 74 = .ok (.iconst 0, 1) := by decide +kernel
theorem dX3_perform_75 : decode cX3_perform 75 = .ok (.ireturn, 1) := by decide +kernel
theorem dX3_perform_76 : decode cX3_perform 76 = .ok (.iload 7, 2) := by decide +kernel
theorem dX3_perform_78 : decode cX3_perform 78 = .ok (.iconst 1, 1) := by decide +kernel
theorem dX3_perform_79 : decode cX3_perform 79 = .ok (.if_icmp .ne 24, 3) := by decide +kernel
theorem dX3_perform_82 : decode cX3_perform 82 = .ok (.aload_n 0, 1) := by decide +kernel
theorem dX3_perform_83 : decode cX3_perform 83 = .ok (.getfield 15, 3) := by decide +kernel
theorem dX3_perform_86 : decode cX3_perform 86 = .ok (.aload_n 0, 1) := by decide +kernel
theorem dX3_perform_87 : decode cX3_perform 87 = .ok (.getfield 18, 3) := by decide +kernel
theorem dX3_perform_90 : decode cX3_perform 90 = .ok (.iload 6, 2) := by decide +kernel
theorem dX3_perform_92 : decode cX3_perform 92 = .ok (.iastore, 1) := by decide +kernel
theorem dX3_perform_93 : decode cX3_perform 93 = .ok (.aload_n 0, 1) := by decide +kernel
theorem dX3_perform_94 : decode cX3_perform 94 = .ok (.dup, 1) := by decide +kernel
theorem dX3_perform_95 : decode cX3_perform 95 = .ok (.getfield 18, 3) := by decide +kernel
theorem dX3_perform_98 : decode cX3_perform 98 = .ok (.iconst 1, 1) := by decide +kernel
theorem dX3_perform_99 : decode cX3_perform 99 = .ok (.iadd, 1) := by decide +kernel
theorem dX3_perform_100 : decode cX3_perform 100 = .ok (.putfield 18, 3) := by decide +kernel
theorem dX3_perform_103 : decode cX3_perform 103 = .ok (.aload_n 0, 1) := by decide +kernel
theorem dX3_perform_104 : decode cX3_perform 104 = .ok (.dup, 1) := by decide +kernel
theorem dX3_perform_105 : decode cX3_perform 105 = .ok (.getfield 22, 3) := by decide +kernel
theorem dX3_perform_108 : decode cX3_perform 108 = .ok (.aload_n 0, 1) := by decide +kernel
theorem dX3_perform_109 : decode cX3_perform 109 = .ok (.getfield 25, 3) := by decide +kernel
theorem dX3_perform_112 : decode cX3_perform 112 = .ok (.iadd, 1) := by decide +kernel
theorem dX3_perform_113 : decode cX3_perform 113 = .ok (.putfield 22, 3) := by decide +kernel
theorem dX3_perform_116 : decode cX3_perform 116 = .ok (.iinc 5 1, 3) := by decide +kernel
theorem dX3_perform_119 : decode cX3_perform 119 = .ok (.goto (-93), 3) := by decide +kernel
theorem dX3_perform_122 : decode cX3_perform 122 = .ok (.iconst 1, 1) := by decide +kernel
theorem dX3_perform_123 : decode cX3_perform 123 = .ok (.ireturn, 1) := by decide +kernel
theorem dX3_doRoutine_0 : decode cX3_doRoutine 0 = .ok (.iload 4, 2) := by decide +kernel
theorem dX3_doRoutine_2 : decode cX3_doRoutine 2 = .ok (.bipush 20, 2) := by decide +kernel
theorem dX3_doRoutine_4 : decode cX3_doRoutine 4 = .ok (.if_icmp .le 5, 3) := by decide +kernel
theorem dX3_doRoutine_7 : decode cX3_doRoutine 7 = .ok (.iconst 2, 1) := by decide +kernel
theorem dX3_doRoutine_8 : decode cX3_doRoutine 8 = .ok (.ireturn, 1) := by decide +kernel
theorem dX3_doRoutine_9 : decode cX3_doRoutine 9 = .ok (.aload_n 1, 1) := by decide +kernel
theorem dX3_doRoutine_10 : decode cX3_doRoutine 10 = .ok (.iload_n 2, 1) := by decide +kernel
theorem dX3_doRoutine_11 : decode cX3_doRoutine 11 = .ok (.aaload, 1) := by decide +kernel
theorem dX3_doRoutine_12 : decode cX3_doRoutine 12 = .ok (.astore 5, 2) := by decide +kernel
theorem dX3_doRoutine_14 : decode cX3_doRoutine 14 = .ok (.iconst 0, 1) := by decide +kernel
theorem dX3_doRoutine_15 : decode cX3_doRoutine 15 = .ok (.istore 6, 2) := by decide +kernel
theorem dX3_doRoutine_17 : decode cX3_doRoutine 17 = .ok (.iload 6, 2) := by decide +kernel
theorem dX3_doRoutine_19 : decode cX3_doRoutine 19 = .ok (.aload 5, 2) := by decide +kernel
theorem dX3_doRoutine_21 : decode cX3_doRoutine 21 = .ok (.getfield 49, 3) := by decide +kernel
theorem dX3_doRoutine_24 : decode cX3_doRoutine 24 = .ok (.if_icmp .ge 103, 3) := by decide +kernel
theorem dX3_doRoutine_27 : decode cX3_doRoutine 27 = .ok (.aload_n 0, 1) := by decide +kernel
theorem dX3_doRoutine_28 : decode cX3_doRoutine 28 = .ok (.getfield 25, 3) := by decide +kernel
theorem dX3_doRoutine_31 : decode cX3_doRoutine 31 = .ok (.sipush 200, 3) := by decide +kernel
theorem dX3_doRoutine_34 : decode cX3_doRoutine 34 = .ok (.if_icmp .lt 5, 3) := by decide +kernel
theorem dX3_doRoutine_37 : decode cX3_doRoutine 37 = .ok (.iconst 2, 1) := by decide +kernel
theorem dX3_doRoutine_38 : decode cX3_doRoutine 38 = .ok (.ireturn, 1) := by decide +kernel
theorem dX3_doRoutine_39 : decode cX3_doRoutine 39 = .ok (.aload_n 0, 1) := by decide +kernel
theorem dX3_doRoutine_40 : decode cX3_doRoutine 40 = .ok (.dup, 1) := by decide +kernel
theorem dX3_doRoutine_41 : decode cX3_doRoutine 41 = .ok (.getfield 25, 3) := by decide +kernel
theorem dX3_doRoutine_44 : decode cX3_doRoutine 44 = .ok (.iconst 1, 1) := by decide +kernel
theorem dX3_doRoutine_45 : decode cX3_doRoutine 45 = .ok (.iadd, 1) := by decide +kernel
theorem dX3_doRoutine_46 : decode cX3_doRoutine 46 = .ok (.putfield 25, 3) := by decide +kernel
theorem dX3_doRoutine_49 : decode cX3_doRoutine 49 = .ok (.aload 5, 2) := by decide +kernel
theorem dX3_doRoutine_51 : decode cX3_doRoutine 51 = .ok (.getfield 54, 3) := by decide +kernel
theorem dX3_doRoutine_54 : decode cX3_doRoutine 54 = .ok (.iload 6, 2) := by decide +kernel
theorem dX3_doRoutine_56 : decode cX3_doRoutine 56 = .ok (.iaload, 1) := by decide +kernel
theorem dX3_doRoutine_57 : decode cX3_doRoutine 57 = .ok (.iload_n 3, 1) := by decide +kernel
theorem dX3_doRoutine_58 : decode cX3_doRoutine 58 = .ok (.invokestatic 57, 3) := by decide +kernel
theorem dX3_doRoutine_61 : decode cX3_doRoutine 61 = .ok (.istore 7, 2) := by decide +kernel
theorem dX3_doRoutine_63 : decode cX3_doRoutine 63 = .ok (.aload 5, 2) := by decide +kernel
theorem dX3_doRoutine_65 : decode cX3_doRoutine 65 = .ok (.getfield 61, 3) := by decide +kernel
theorem dX3_doRoutine_68 : decode cX3_doRoutine 68 = .ok (.iload 6, 2) := by decide +kernel
theorem dX3_doRoutine_70 : decode cX3_doRoutine 70 = .ok (.iaload, 1) := by decide +kernel
theorem dX3_doRoutine_71 : decode cX3_doRoutine 71 = .ok (.iconst 3, 1) := by decide +kernel
theorem dX3_doRoutine_72 : decode cX3_doRoutine 72 = .ok (.if_icmp .ne 28, 3) := by decide +kernel
theorem dX3_doRoutine_75 : decode cX3_doRoutine 75 = .ok (.aload_n 0, 1) := by decide +kernel
theorem dX3_doRoutine_76 : decode cX3_doRoutine 76 = .ok (.aload_n 1, 1) := by decide +kernel
theorem dX3_doRoutine_77 : decode cX3_doRoutine 77 = .ok (.aload 5, 2) := by decide +kernel
theorem dX3_doRoutine_79 : decode cX3_doRoutine 79 = .ok (.getfield 64, 3) := by decide +kernel
theorem dX3_doRoutine_82 : decode cX3_doRoutine 82 = .ok (.iload 6, 2) := by decide +kernel
theorem dX3_doRoutine_84 : decode cX3_doRoutine 84 = .ok (.iaload, 1) := by decide +kernel
theorem dX3_doRoutine_85 : decode cX3_doRoutine 85 = .ok (.iload 7, 2) := by decide +kernel
theorem dX3_doRoutine_87 : decode cX3_doRoutine 87 = .ok (.bipush 6, 2) := by decide +kernel
theorem dX3_doRoutine_89 : decode cX3_doRoutine 89 = .ok (.isub, 1) := by decide +kernel
theorem dX3_doRoutine_90 : decode cX3_doRoutine 90 = .ok (.iload 4, 2) := by decide +kernel
theorem dX3_doRoutine_92 : decode cX3_doRoutine 92 = .ok (.iconst 1, 1) := by decide +kernel
theorem dX3_doRoutine_93 : decode cX3_doRoutine 93 = .ok (.iadd, 1) := by decide +kernel
theorem dX3_doRoutine_94 : decode cX3_doRoutine 94 = .ok (.invokevirtual 45, 3) := by decide +kernel
theorem dX3_doRoutine_97 : decode cX3_doRoutine 97 = .ok (.goto 14, 3) := by decide +kernel
theorem dX3_doRoutine_100 : decode cX3_doRoutine 100 = .ok (.aload_n 0, 1) := by decide +kernel
theorem dX3_doRoutine_101 : decode cX3_doRoutine 101 = .ok (.aload 5, 2) := by decide +kernel
theorem dX3_doRoutine_103 : decode cX3_doRoutine 103 = .ok (.iload 6, 2) := by decide +kernel
theorem dX3_doRoutine_105 : decode cX3_doRoutine 105 = .ok (.iload 7, 2) := by decide +kernel
theorem dX3_doRoutine_107 : decode cX3_doRoutine 107 = .ok (.iload_n 3, 1) := by decide +kernel
theorem dX3_doRoutine_108 : decode cX3_doRoutine 108 = .ok (.invokevirtual 67, 3) := by decide +kernel
theorem dX3_doRoutine_111 : decode cX3_doRoutine 111 = .ok (.istore 8, 2) := by decide +kernel
theorem dX3_doRoutine_113 : decode cX3_doRoutine 113 = .ok (.iload 8, 2) := by decide +kernel
theorem dX3_doRoutine_115 : decode cX3_doRoutine 115 = .ok (.ifCond .eq 6, 3) := by decide +kernel
theorem dX3_doRoutine_118 : decode cX3_doRoutine 118 = .ok (.iload 8, 2) := by decide +kernel
theorem dX3_doRoutine_120 : decode cX3_doRoutine 120 = .ok (.ireturn, 1) := by decide +kernel
theorem dX3_doRoutine_121 : decode cX3_doRoutine 121 = .ok (.iinc 6 1, 3) := by decide +kernel
theorem dX3_doRoutine_124 : decode cX3_doRoutine 124 = .ok (.goto (-107), 3) := by decide +kernel
theorem dX3_doRoutine_127 : decode cX3_doRoutine 127 = .ok (.iconst 0, 1) := by decide +kernel
theorem dX3_doRoutine_128 : decode cX3_doRoutine 128 = .ok (.ireturn, 1) := by decide +kernel
theorem dX3_doSimple_0 : decode cX3_doSimple 0 = .ok (.aload_n 1, 1) := by decide +kernel
theorem dX3_doSimple_1 : decode cX3_doSimple 1 = .ok (.getfield 61, 3) := by decide +kernel
theorem dX3_doSimple_4 : decode cX3_doSimple 4 = .ok (.iload_n 2, 1) := by decide +kernel
theorem dX3_doSimple_5 : decode cX3_doSimple 5 = .ok (.iaload, 1) := by decide +kernel
theorem dX3_doSimple_6 : decode cX3_doSimple 6 = .ok (.lookupswitch 71 #[(0, 26), (1, 45)], 26) := by decide +kernel
theorem dX3_doSimple_32 : decode cX3_doSimple 32 = .ok (.aload_n 0, 1) := by decide +kernel
theorem dX3_doSimple_33 : decode cX3_doSimple 33 = .ok (.getfield 9, 3) := by decide +kernel
theorem dX3_doSimple_36 : decode cX3_doSimple 36 = .ok (.iload_n 3, 1) := by decide +kernel
theorem dX3_doSimple_37 : decode cX3_doSimple 37 = .ok (.aload_n 0, 1) := by decide +kernel
theorem dX3_doSimple_38 : decode cX3_doSimple 38 = .ok (.aload_n 1, 1) := by decide +kernel
theorem dX3_doSimple_39 : decode cX3_doSimple 39 = .ok (.iload_n 2, 1) := by decide +kernel
theorem dX3_doSimple_40 : decode cX3_doSimple 40 = .ok (.iload 4, 2) := by decide +kernel
theorem dX3_doSimple_42 : decode cX3_doSimple 42 = .ok (.invokevirtual 71, 3) := by decide +kernel
theorem dX3_doSimple_45 : decode cX3_doSimple 45 = .ok (.bipush 100, 2) := by decide +kernel
theorem dX3_doSimple_47 : decode cX3_doSimple 47 = .ok (.irem, 1) := by decide +kernel
theorem dX3_doSimple_48 : decode cX3_doSimple 48 = .ok (.iastore, 1) := by decide +kernel
theorem dX3_doSimple_49 : decode cX3_doSimple 49 = .ok (.iconst 0, 1) := by decide +kernel
theorem dX3_doSimple_50 : decode cX3_doSimple 50 = .ok (.ireturn, 1) := by decide +kernel
theorem dX3_doSimple_51 : decode cX3_doSimple 51 = .ok (.aload_n 0, 1) := by decide +kernel
theorem dX3_doSimple_52 : decode cX3_doSimple 52 = .ok (.getfield 9, 3) := by decide +kernel
theorem dX3_doSimple_55 : decode cX3_doSimple 55 = .ok (.iload_n 3, 1) := by decide +kernel
theorem dX3_doSimple_56 : decode cX3_doSimple 56 = .ok (.aload_n 0, 1) := by decide +kernel
theorem dX3_doSimple_57 : decode cX3_doSimple 57 = .ok (.getfield 9, 3) := by decide +kernel
theorem dX3_doSimple_60 : decode cX3_doSimple 60 = .ok (.iload_n 3, 1) := by decide +kernel
theorem dX3_doSimple_61 : decode cX3_doSimple 61 = .ok (.iaload, 1) := by decide +kernel
theorem dX3_doSimple_62 : decode cX3_doSimple 62 = .ok (.aload_n 0, 1) := by decide +kernel
theorem dX3_doSimple_63 : decode cX3_doSimple 63 = .ok (.aload_n 1, 1) := by decide +kernel
theorem dX3_doSimple_64 : decode cX3_doSimple 64 = .ok (.iload_n 2, 1) := by decide +kernel
theorem dX3_doSimple_65 : decode cX3_doSimple 65 = .ok (.iload 4, 2) := by decide +kernel
theorem dX3_doSimple_67 : decode cX3_doSimple 67 = .ok (.invokevirtual 71, 3) := by decide +kernel
theorem dX3_doSimple_70 : decode cX3_doSimple 70 = .ok (.iadd, 1) := by decide +kernel
theorem dX3_doSimple_71 : decode cX3_doSimple 71 = .ok (.bipush 100, 2) := by decide +kernel
theorem dX3_doSimple_73 : decode cX3_doSimple 73 = .ok (.irem, 1) := by decide +kernel
theorem dX3_doSimple_74 : decode cX3_doSimple 74 = .ok (.iastore, 1) := by decide +kernel
theorem dX3_doSimple_75 : decode cX3_doSimple 75 = .ok (.iconst 0, 1) := by decide +kernel
theorem dX3_doSimple_76 : decode cX3_doSimple 76 = .ok (.ireturn, 1) := by decide +kernel
theorem dX3_doSimple_77 : decode cX3_doSimple 77 = .ok (.aload_n 0, 1) := by decide +kernel
theorem dX3_doSimple_78 : decode cX3_doSimple 78 = .ok (.getfield 9, 3) := by decide +kernel
theorem dX3_doSimple_81 : decode cX3_doSimple 81 = .ok (.iload_n 3, 1) := by decide +kernel
theorem dX3_doSimple_82 : decode cX3_doSimple 82 = .ok (.iaload, 1) := by decide +kernel
theorem dX3_doSimple_83 : decode cX3_doSimple 83 = .ok (.ifCond .ne 7, 3) := by decide +kernel
theorem dX3_doSimple_86 : decode cX3_doSimple 86 = .ok (.iconst 1, 1) := by decide +kernel
theorem dX3_doSimple_87 : decode cX3_doSimple 87 = .ok (.goto 4, 3) := by decide +kernel
theorem dX3_doSimple_90 : decode cX3_doSimple 90 = .ok (.iconst 0, 1) := by decide +kernel
theorem dX3_doSimple_91 : decode cX3_doSimple 91 = .ok (.ireturn, 1) := by decide +kernel
theorem dX3_sumOfLeaves_0 : decode cX3_sumOfLeaves 0 = .ok (.iconst 0, 1) := by decide +kernel
theorem dX3_sumOfLeaves_1 : decode cX3_sumOfLeaves 1 = .ok (.istore 4, 2) := by decide +kernel
theorem dX3_sumOfLeaves_3 : decode cX3_sumOfLeaves 3 = .ok (.aload_n 1, 1) := by decide +kernel
theorem dX3_sumOfLeaves_4 : decode cX3_sumOfLeaves 4 = .ok (.iload_n 2, 1) := by decide +kernel
theorem dX3_sumOfLeaves_5 : decode cX3_sumOfLeaves 5 = .ok (.invokevirtual 75, 3) := by decide +kernel
theorem dX3_sumOfLeaves_8 : decode cX3_sumOfLeaves 8 = .ok (.istore 5, 2) := by decide +kernel
theorem dX3_sumOfLeaves_10 : decode cX3_sumOfLeaves 10 = .ok (.iload 5, 2) := by decide +kernel
theorem dX3_sumOfLeaves_12 : decode cX3_sumOfLeaves 12 = .ok (.aload_n 1, 1) := by decide +kernel
theorem dX3_sumOfLeaves_13 : decode cX3_sumOfLeaves 13 = .ok (.getfield 79, 3) := by decide +kernel
theorem dX3_sumOfLeaves_16 : decode cX3_sumOfLeaves 16 = .ok (.iload_n 2, 1) := by decide +kernel
theorem dX3_sumOfLeaves_17 : decode cX3_sumOfLeaves 17 = .ok (.iaload, 1) := by decide +kernel
theorem dX3_sumOfLeaves_18 : decode cX3_sumOfLeaves 18 = .ok (.if_icmp .ge 74, 3) := by decide +kernel
theorem dX3_sumOfLeaves_21 : decode cX3_sumOfLeaves 21 = .ok (.aload_n 1, 1) := by decide +kernel
theorem dX3_sumOfLeaves_22 : decode cX3_sumOfLeaves 22 = .ok (.getfield 82, 3) := by decide +kernel
theorem dX3_sumOfLeaves_25 : decode cX3_sumOfLeaves 25 = .ok (.iload 5, 2) := by decide +kernel
theorem dX3_sumOfLeaves_27 : decode cX3_sumOfLeaves 27 = .ok (.iaload, 1) := by decide +kernel
theorem dX3_sumOfLeaves_28 : decode cX3_sumOfLeaves 28 = .ok (.istore 6, 2) := by decide +kernel
theorem dX3_sumOfLeaves_30 : decode cX3_sumOfLeaves 30 = .ok (.aload_n 1, 1) := by decide +kernel
theorem dX3_sumOfLeaves_31 : decode cX3_sumOfLeaves 31 = .ok (.getfield 85, 3) := by decide +kernel
theorem dX3_sumOfLeaves_34 : decode cX3_sumOfLeaves 34 = .ok (.iload 5, 2) := by decide +kernel
theorem dX3_sumOfLeaves_36 : decode cX3_sumOfLeaves 36 = .ok (.iaload, 1) := by decide +kernel
theorem dX3_sumOfLeaves_37 : decode cX3_sumOfLeaves 37 = .ok (.ifCond .ne 13, 3) := by decide +kernel
theorem dX3_sumOfLeaves_40 : decode cX3_sumOfLeaves 40 = .ok (.iload 4, 2) := by decide +kernel
theorem dX3_sumOfLeaves_42 : decode cX3_sumOfLeaves 42 = .ok (.iload 6, 2) := by decide +kernel
theorem dX3_sumOfLeaves_44 : decode cX3_sumOfLeaves 44 = .ok (.iadd, 1) := by decide +kernel
theorem dX3_sumOfLeaves_45 : decode cX3_sumOfLeaves 45 = .ok (.istore 4, 2) := by decide +kernel
theorem dX3_sumOfLeaves_47 : decode cX3_sumOfLeaves 47 = .ok (.goto 39, 3) := by decide +kernel
theorem dX3_sumOfLeaves_50 : decode cX3_sumOfLeaves 50 = .ok (.aload_n 1, 1) := by decide +kernel
theorem dX3_sumOfLeaves_51 : decode cX3_sumOfLeaves 51 = .ok (.getfield 85, 3) := by decide +kernel
theorem dX3_sumOfLeaves_54 : decode cX3_sumOfLeaves 54 = .ok (.iload 5, 2) := by decide +kernel
theorem dX3_sumOfLeaves_56 : decode cX3_sumOfLeaves 56 = .ok (.iaload, 1) := by decide +kernel
theorem dX3_sumOfLeaves_57 : decode cX3_sumOfLeaves 57 = .ok (.iconst 1, 1) := by decide +kernel
theorem dX3_sumOfLeaves_58 : decode cX3_sumOfLeaves 58 = .ok (.if_icmp .ne 12, 3) := by decide +kernel
theorem dX3_sumOfLeaves_61 : decode cX3_sumOfLeaves 61 = .ok (.iload 4, 2) := by decide +kernel
theorem dX3_sumOfLeaves_63 : decode cX3_sumOfLeaves 63 = .ok (.iload_n 3, 1) := by decide +kernel
theorem dX3_sumOfLeaves_64 : decode cX3_sumOfLeaves 64 = .ok (.iadd, 1) := by decide +kernel
theorem dX3_sumOfLeaves_65 : decode cX3_sumOfLeaves 65 = .ok (.istore 4, 2) := by decide +kernel
theorem dX3_sumOfLeaves_67 : decode cX3_sumOfLeaves 67 = .ok (.goto 19, 3) := by decide +kernel
theorem dX3_sumOfLeaves_70 : decode cX3_sumOfLeaves 70 = .ok (.iload 4, 2) := by decide +kernel
theorem dX3_sumOfLeaves_72 : decode cX3_sumOfLeaves 72 = .ok (.aload_n 0, 1) := by decide +kernel
theorem dX3_sumOfLeaves_73 : decode cX3_sumOfLeaves 73 = .ok (.getfield 9, 3) := by decide +kernel
theorem dX3_sumOfLeaves_76 : decode cX3_sumOfLeaves 76 = .ok (.iload 6, 2) := by decide +kernel
theorem dX3_sumOfLeaves_78 : decode cX3_sumOfLeaves 78 = .ok (.iload_n 3, 1) := by decide +kernel
theorem dX3_sumOfLeaves_79 : decode cX3_sumOfLeaves 79 = .ok (.invokestatic 57, 3) := by decide +kernel
theorem dX3_sumOfLeaves_82 : decode cX3_sumOfLeaves 82 = .ok (.iaload, 1) := by decide +kernel
theorem dX3_sumOfLeaves_83 : decode cX3_sumOfLeaves 83 = .ok (.iadd, 1) := by decide +kernel
theorem dX3_sumOfLeaves_84 : decode cX3_sumOfLeaves 84 = .ok (.istore 4, 2) := by decide +kernel
theorem dX3_sumOfLeaves_86 : decode cX3_sumOfLeaves 86 = .ok (.iinc 5 1, 3) := by decide +kernel
theorem dX3_sumOfLeaves_89 : decode cX3_sumOfLeaves 89 = .ok (.goto (-79), 3) := by decide +kernel
theorem dX3_sumOfLeaves_92 : decode cX3_sumOfLeaves 92 = .ok (.iload 4, 2) := by decide +kernel
theorem dX3_sumOfLeaves_94 : decode cX3_sumOfLeaves 94 = .ok (.ireturn, 1) := by decide +kernel
theorem dX4_init_0 : decode cX4_init 0 = .ok (.aload_n 0, 1) := by decide +kernel
theorem dX4_init_1 : decode cX4_init 1 = .ok (.invokespecial 3, 3) := by decide +kernel
theorem dX4_init_4 : decode cX4_init 4 = .ok (.aload_n 0, 1) := by decide +kernel
theorem dX4_init_5 : decode cX4_init 5 = .ok (.bipush 16, 2) := by decide +kernel
theorem dX4_init_7 : decode cX4_init 7 = .ok (.newarray .int, 2) := by decide +kernel
theorem dX4_init_9 : decode cX4_init 9 = .ok (.putfield 9, 3) := by decide +kernel
theorem dX4_init_12 : decode cX4_init 12 = .ok (.aload_n 0, 1) := by decide +kernel
theorem dX4_init_13 : decode cX4_init 13 = .ok (.bipush 16, 2) := by decide +kernel
theorem dX4_init_15 : decode cX4_init 15 = .ok (.newarray .int, 2) := by decide +kernel
theorem dX4_init_17 : decode cX4_init 17 = .ok (.putfield 15, 3) := by decide +kernel
theorem dX4_init_20 : decode cX4_init 20 = .ok (.aload_n 0, 1) := by decide +kernel
theorem dX4_init_21 : decode cX4_init 21 = .ok (.iconst 0, 1) := by decide +kernel
theorem dX4_init_22 : decode cX4_init 22 = .ok (.putfield 18, 3) := by decide +kernel
theorem dX4_init_25 : decode cX4_init 25 = .ok (.return_, 1) := by decide +kernel
theorem dX4_append_0 : decode cX4_append 0 = .ok (.aload_n 0, 1) := by decide +kernel
theorem dX4_append_1 : decode cX4_append 1 = .ok (.getfield 18, 3) := by decide +kernel
theorem dX4_append_4 : decode cX4_append 4 = .ok (.bipush 16, 2) := by decide +kernel
theorem dX4_append_6 : decode cX4_append 6 = .ok (.if_icmp .ge 33, 3) := by decide +kernel
theorem dX4_append_9 : decode cX4_append 9 = .ok (.aload_n 0, 1) := by decide +kernel
theorem dX4_append_10 : decode cX4_append 10 = .ok (.getfield 9, 3) := by decide +kernel
theorem dX4_append_13 : decode cX4_append 13 = .ok (.aload_n 0, 1) := by decide +kernel
theorem dX4_append_14 : decode cX4_append 14 = .ok (.getfield 18, 3) := by decide +kernel
theorem dX4_append_17 : decode cX4_append 17 = .ok (.iload_n 1, 1) := by decide +kernel
theorem dX4_append_18 : decode cX4_append 18 = .ok (.iastore, 1) := by decide +kernel
theorem dX4_append_19 : decode cX4_append 19 = .ok (.aload_n 0, 1) := by decide +kernel
theorem dX4_append_20 : decode cX4_append 20 = .ok (.getfield 15, 3) := by decide +kernel
theorem dX4_append_23 : decode cX4_append 23 = .ok (.aload_n 0, 1) := by decide +kernel
theorem dX4_append_24 : decode cX4_append 24 = .ok (.getfield 18, 3) := by decide +kernel
theorem dX4_append_27 : decode cX4_append 27 = .ok (.iload_n 2, 1) := by decide +kernel
theorem dX4_append_28 : decode cX4_append 28 = .ok (.iastore, 1) := by decide +kernel
theorem dX4_append_29 : decode cX4_append 29 = .ok (.aload_n 0, 1) := by decide +kernel
theorem dX4_append_30 : decode cX4_append 30 = .ok (.dup, 1) := by decide +kernel
theorem dX4_append_31 : decode cX4_append 31 = .ok (.getfield 18, 3) := by decide +kernel
theorem dX4_append_34 : decode cX4_append 34 = .ok (.iconst 1, 1) := by decide +kernel
theorem dX4_append_35 : decode cX4_append 35 = .ok (.iadd, 1) := by decide +kernel
theorem dX4_append_36 : decode cX4_append 36 = .ok (.putfield 18, 3) := by decide +kernel
theorem dX4_append_39 : decode cX4_append 39 = .ok (.return_, 1) := by decide +kernel
theorem dX4_remove_0 : decode cX4_remove 0 = .ok (.iload_n 1, 1) := by decide +kernel
theorem dX4_remove_1 : decode cX4_remove 1 = .ok (.istore_n 2, 1) := by decide +kernel
theorem dX4_remove_2 : decode cX4_remove 2 = .ok (.iload_n 2, 1) := by decide +kernel
theorem dX4_remove_3 : decode cX4_remove 3 = .ok (.aload_n 0, 1) := by decide +kernel
theorem dX4_remove_4 : decode cX4_remove 4 = .ok (.getfield 18, 3) := by decide +kernel
theorem dX4_remove_7 : decode cX4_remove 7 = .ok (.iconst 1, 1) := by decide +kernel
theorem dX4_remove_8 : decode cX4_remove 8 = .ok (.isub, 1) := by decide +kernel
theorem dX4_remove_9 : decode cX4_remove 9 = .ok (.if_icmp .ge 37, 3) := by decide +kernel
theorem dX4_remove_12 : decode cX4_remove 12 = .ok (.aload_n 0, 1) := by decide +kernel
theorem dX4_remove_13 : decode cX4_remove 13 = .ok (.getfield 9, 3) := by decide +kernel
theorem dX4_remove_16 : decode cX4_remove 16 = .ok (.iload_n 2, 1) := by decide +kernel
theorem dX4_remove_17 : decode cX4_remove 17 = .ok (.aload_n 0, 1) := by decide +kernel
theorem dX4_remove_18 : decode cX4_remove 18 = .ok (.getfield 9, 3) := by decide +kernel
theorem dX4_remove_21 : decode cX4_remove 21 = .ok (.iload_n 2, 1) := by decide +kernel
theorem dX4_remove_22 : decode cX4_remove 22 = .ok (.iconst 1, 1) := by decide +kernel
theorem dX4_remove_23 : decode cX4_remove 23 = .ok (.iadd, 1) := by decide +kernel
theorem dX4_remove_24 : decode cX4_remove 24 = .ok (.iaload, 1) := by decide +kernel
theorem dX4_remove_25 : decode cX4_remove 25 = .ok (.iastore, 1) := by decide +kernel
theorem dX4_remove_26 : decode cX4_remove 26 = .ok (.aload_n 0, 1) := by decide +kernel
theorem dX4_remove_27 : decode cX4_remove 27 = .ok (.getfield 15, 3) := by decide +kernel
theorem dX4_remove_30 : decode cX4_remove 30 = .ok (.iload_n 2, 1) := by decide +kernel
theorem dX4_remove_31 : decode cX4_remove 31 = .ok (.aload_n 0, 1) := by decide +kernel
theorem dX4_remove_32 : decode cX4_remove 32 = .ok (.getfield 15, 3) := by decide +kernel
theorem dX4_remove_35 : decode cX4_remove 35 = .ok (.iload_n 2, 1) := by decide +kernel
theorem dX4_remove_36 : decode cX4_remove 36 = .ok (.iconst 1, 1) := by decide +kernel
theorem dX4_remove_37 : decode cX4_remove 37 = .ok (.iadd, 1) := by decide +kernel
theorem dX4_remove_38 : decode cX4_remove 38 = .ok (.iaload, 1) := by decide +kernel
theorem dX4_remove_39 : decode cX4_remove 39 = .ok (.iastore, 1) := by decide +kernel
theorem dX4_remove_40 : decode cX4_remove 40 = .ok (.iinc 2 1, 3) := by decide +kernel
theorem dX4_remove_43 : decode cX4_remove 43 = .ok (.goto (-41), 3) := by decide +kernel
theorem dX4_remove_46 : decode cX4_remove 46 = .ok (.aload_n 0, 1) := by decide +kernel
theorem dX4_remove_47 : decode cX4_remove 47 = .ok (.dup, 1) := by decide +kernel
theorem dX4_remove_48 : decode cX4_remove 48 = .ok (.getfield 18, 3) := by decide +kernel
theorem dX4_remove_51 : decode cX4_remove 51 = .ok (.iconst 1, 1) := by decide +kernel
theorem dX4_remove_52 : decode cX4_remove 52 = .ok (.isub, 1) := by decide +kernel
theorem dX4_remove_53 : decode cX4_remove 53 = .ok (.putfield 18, 3) := by decide +kernel
theorem dX4_remove_56 : decode cX4_remove 56 = .ok (.return_, 1) := by decide +kernel
theorem dX4_exchangeWithNext_0 : decode cX4_exchangeWithNext 0 = .ok (.aload_n 0, 1) := by decide +kernel
theorem dX4_exchangeWithNext_1 : decode cX4_exchangeWithNext 1 = .ok (.getfield 9, 3) := by decide +kernel
theorem dX4_exchangeWithNext_4 : decode cX4_exchangeWithNext 4 = .ok (.iload_n 1, 1) := by decide +kernel
theorem dX4_exchangeWithNext_5 : decode cX4_exchangeWithNext 5 = .ok (.iaload, 1) := by decide +kernel
theorem dX4_exchangeWithNext_6 : decode cX4_exchangeWithNext 6 = .ok (.istore_n 2, 1) := by decide +kernel
theorem dX4_exchangeWithNext_7 : decode cX4_exchangeWithNext 7 = .ok (.aload_n 0, 1) := by decide +kernel
theorem dX4_exchangeWithNext_8 : decode cX4_exchangeWithNext 8 = .ok (.getfield 15, 3) := by decide +kernel
theorem dX4_exchangeWithNext_11 : decode cX4_exchangeWithNext 11 = .ok (.iload_n 1, 1) := by decide +kernel
theorem dX4_exchangeWithNext_12 : decode cX4_exchangeWithNext 12 = .ok (.iaload, 1) := by decide +kernel
theorem dX4_exchangeWithNext_13 : decode cX4_exchangeWithNext 13 = .ok (.istore_n 3, 1) := by decide +kernel
theorem dX4_exchangeWithNext_14 : decode cX4_exchangeWithNext 14 = .ok (.aload_n 0, 1) := by decide +kernel
theorem dX4_exchangeWithNext_15 : decode cX4_exchangeWithNext 15 = .ok (.getfield 9, 3) := by decide +kernel
theorem dX4_exchangeWithNext_18 : decode cX4_exchangeWithNext 18 = .ok (.iload_n 1, 1) := by decide +kernel
theorem dX4_exchangeWithNext_19 : decode cX4_exchangeWithNext 19 = .ok (.aload_n 0, 1) := by decide +kernel
theorem dX4_exchangeWithNext_20 : decode cX4_exchangeWithNext 20 = .ok (.getfield 9, 3) := by decide +kernel
theorem dX4_exchangeWithNext_23 : decode cX4_exchangeWithNext 23 = .ok (.iload_n 1, 1) := by decide +kernel
theorem dX4_exchangeWithNext_24 : decode cX4_exchangeWithNext 24 = .ok (.iconst 1, 1) := by decide +kernel
theorem dX4_exchangeWithNext_25 : decode cX4_exchangeWithNext 25 = .ok (.iadd, 1) := by decide +kernel
theorem dX4_exchangeWithNext_26 : decode cX4_exchangeWithNext 26 = .ok (.iaload, 1) := by decide +kernel
theorem dX4_exchangeWithNext_27 : decode cX4_exchangeWithNext 27 = .ok (.iastore, 1) := by decide +kernel
theorem dX4_exchangeWithNext_28 : decode cX4_exchangeWithNext 28 = .ok (.aload_n 0, 1) := by decide +kernel
theorem dX4_exchangeWithNext_29 : decode cX4_exchangeWithNext 29 = .ok (.getfield 15, 3) := by decide +kernel
theorem dX4_exchangeWithNext_32 : decode cX4_exchangeWithNext 32 = .ok (.iload_n 1, 1) := by decide +kernel
theorem dX4_exchangeWithNext_33 : decode cX4_exchangeWithNext 33 = .ok (.aload_n 0, 1) := by decide +kernel
theorem dX4_exchangeWithNext_34 : decode cX4_exchangeWithNext 34 = .ok (.getfield 15, 3) := by decide +kernel
theorem dX4_exchangeWithNext_37 : decode cX4_exchangeWithNext 37 = .ok (.iload_n 1, 1) := by decide +kernel
theorem dX4_exchangeWithNext_38 : decode cX4_exchangeWithNext 38 = .ok (.iconst 1, 1) := by decide +kernel
theorem dX4_exchangeWithNext_39 : decode cX4_exchangeWithNext 39 = .ok (.iadd, 1) := by decide +kernel
end
section
theorem dX4_exchangeWithNext_40 : decode cX4_exchangeWithNext 40 = .ok (.iaload, 1) := by decide +kernel
theorem dX4_exchangeWithNext_41 : decode cX4_exchangeWithNext 41 = .ok (.iastore, 1) := by decide +kernel
theorem dX4_exchangeWithNext_42 : decode cX4_exchangeWithNext 42 = .ok (.aload_n 0, 1) := by decide +kernel
theorem dX4_exchangeWithNext_43 : decode cX4_exchangeWithNext 43 = .ok (.getfield 9, 3) := by decide +kernel
theorem dX4_exchangeWithNext_46 : decode cX4_exchangeWithNext 46 = .ok (.iload_n 1, 1) := by decide +kernel
theorem dX4_exchangeWithNext_47 : decode cX4_exchangeWithNext 47 = .ok (.iconst 1, 1) := by decide +kernel
theorem dX4_exchangeWithNext_48 : decode cX4_exchangeWithNext 48 = .ok (.iadd, 1) := by decide +kernel
theorem dX4_exchangeWithNext_49 : decode cX4_exchangeWithNext 49 = .ok (.iload_n 2, 1) := by decide +kernel
theorem dX4_exchangeWithNext_50 : decode cX4_exchangeWithNext 50 = .ok (.iastore, 1) := by decide +kernel
theorem dX4_exchangeWithNext_51 : decode cX4_exchangeWithNext 51 = .ok (.aload_n 0, 1) := by decide +kernel
theorem dX4_exchangeWithNext_52 : decode cX4_exchangeWithNext 52 = .ok (.getfield 15, 3) := by decide +kernel
theorem dX4_exchangeWithNext_55 : decode cX4_exchangeWithNext 55 = .ok (.iload_n 1, 1) := by decide +kernel
theorem dX4_exchangeWithNext_56 : decode cX4_exchangeWithNext 56 = .ok (.iconst 1, 1) := by decide +kernel
theorem dX4_exchangeWithNext_57 : decode cX4_exchangeWithNext 57 = .ok (.iadd, 1) := by decide +kernel
theorem dX4_exchangeWithNext_58 : decode cX4_exchangeWithNext 58 = .ok (.iload_n 3, 1) := by decide +kernel
theorem dX4_exchangeWithNext_59 : decode cX4_exchangeWithNext 59 = .ok (.iastore, 1) := by decide +kernel
theorem dX4_exchangeWithNext_60 : decode cX4_exchangeWithNext 60 = .ok (.return_, 1) := by decide +kernel
theorem dX4_copyFrom_0 : decode cX4_copyFrom 0 = .ok (.aload_n 1, 1) := by decide +kernel
theorem dX4_copyFrom_1 : decode cX4_copyFrom 1 = .ok (.getfield 9, 3) := by decide +kernel
theorem dX4_copyFrom_4 : decode cX4_copyFrom 4 = .ok (.iconst 0, 1) := by decide +kernel
theorem dX4_copyFrom_5 : decode cX4_copyFrom 5 = .ok (.aload_n 0, 1) := by decide +kernel
theorem dX4_copyFrom_6 : decode cX4_copyFrom 6 = .ok (.getfield 9, 3) := by decide +kernel
theorem dX4_copyFrom_9 : decode cX4_copyFrom 9 = .ok (.iconst 0, 1) := by decide +kernel
theorem dX4_copyFrom_10 : decode cX4_copyFrom 10 = .ok (.bipush 16, 2) := by decide +kernel
theorem dX4_copyFrom_12 : decode cX4_copyFrom 12 = .ok (.invokestatic 22, 3) := by decide +kernel
theorem dX4_copyFrom_15 : decode cX4_copyFrom 15 = .ok (.aload_n 1, 1) := by decide +kernel
theorem dX4_copyFrom_16 : decode cX4_copyFrom 16 = .ok (.getfield 15, 3) := by decide +kernel
theorem dX4_copyFrom_19 : decode cX4_copyFrom 19 = .ok (.iconst 0, 1) := by decide +kernel
theorem dX4_copyFrom_20 : decode cX4_copyFrom 20 = .ok (.aload_n 0, 1) := by decide +kernel
theorem dX4_copyFrom_21 : decode cX4_copyFrom 21 = .ok (.getfield 15, 3) := by decide +kernel
theorem dX4_copyFrom_24 : decode cX4_copyFrom 24 = .ok (.iconst 0, 1) := by decide +kernel
theorem dX4_copyFrom_25 : decode cX4_copyFrom 25 = .ok (.bipush 16, 2) := by decide +kernel
theorem dX4_copyFrom_27 : decode cX4_copyFrom 27 = .ok (.invokestatic 22, 3) := by decide +kernel
theorem dX4_copyFrom_30 : decode cX4_copyFrom 30 = .ok (.aload_n 0, 1) := by decide +kernel
theorem dX4_copyFrom_31 : decode cX4_copyFrom 31 = .ok (.aload_n 1, 1) := by decide +kernel
theorem dX4_copyFrom_32 : decode cX4_copyFrom 32 = .ok (.getfield 18, 3) := by decide +kernel
theorem dX4_copyFrom_35 : decode cX4_copyFrom 35 = .ok (.putfield 18, 3) := by decide +kernel
theorem dX4_copyFrom_38 : decode cX4_copyFrom 38 = .ok (.return_, 1) := by decide +kernel
theorem dX5_init_0 : decode cX5_init 0 = .ok (.aload_n 0, 1) := by decide +kernel
theorem dX5_init_1 : decode cX5_init 1 = .ok (.invokespecial 3, 3) := by decide +kernel
theorem dX5_init_4 : decode cX5_init 4 = .ok (.aload_n 0, 1) := by decide +kernel
theorem dX5_init_5 : decode cX5_init 5 = .ok (.bipush 30, 2) := by decide +kernel
theorem dX5_init_7 : decode cX5_init 7 = .ok (.newarray .int, 2) := by decide +kernel
theorem dX5_init_9 : decode cX5_init 9 = .ok (.putfield 9, 3) := by decide +kernel
theorem dX5_init_12 : decode cX5_init 12 = .ok (.aload_n 0, 1) := by decide +kernel
theorem dX5_init_13 : decode cX5_init 13 = .ok (.iconst 0, 1) := by decide +kernel
theorem dX5_init_14 : decode cX5_init 14 = .ok (.putfield 15, 3) := by decide +kernel
theorem dX5_init_17 : decode cX5_init 17 = .ok (.aload_n 0, 1) := by decide +kernel
theorem dX5_init_18 : decode cX5_init 18 = .ok (.bipush (-6), 2) := by decide +kernel
theorem dX5_init_20 : decode cX5_init 20 = .ok (.putfield 19, 3) := by decide +kernel
theorem dX5_init_23 : decode cX5_init 23 = .ok (.aload_n 0, 1) := by decide +kernel
theorem dX5_init_24 : decode cX5_init 24 = .ok (.bipush 15, 2) := by decide +kernel
theorem dX5_init_26 : decode cX5_init 26 = .ok (.newarray .int, 2) := by decide +kernel
theorem dX5_init_28 : decode cX5_init 28 = .ok (.putfield 22, 3) := by decide +kernel
theorem dX5_init_31 : decode cX5_init 31 = .ok (.aload_n 0, 1) := by decide +kernel
theorem dX5_init_32 : decode cX5_init 32 = .ok (.bipush 15, 2) := by decide +kernel
theorem dX5_init_34 : decode cX5_init 34 = .ok (.newarray .int, 2) := by decide +kernel
theorem dX5_init_36 : decode cX5_init 36 = .ok (.putfield 25, 3) := by decide +kernel
theorem dX5_init_39 : decode cX5_init 39 = .ok (.aload_n 0, 1) := by decide +kernel
theorem dX5_init_40 : decode cX5_init 40 = .ok (.bipush 15, 2) := by decide +kernel
theorem dX5_init_42 : decode cX5_init 42 = .ok (.newarray .int, 2) := by decide +kernel
theorem dX5_init_44 : decode cX5_init 44 = .ok (.putfield 28, 3) := by decide +kernel
theorem dX5_init_47 : decode cX5_init 47 = .ok (.aload_n 0, 1) := by decide +kernel
theorem dX5_init_48 : decode cX5_init 48 = .ok (.bipush 15, 2) := by decide +kernel
theorem dX5_init_50 : decode cX5_init 50 = .ok (.newarray .int, 2) := by decide +kernel
theorem dX5_init_52 : decode cX5_init 52 = .ok (.putfield 31, 3) := by decide +kernel
theorem dX5_init_55 : decode cX5_init 55 = .ok (.aload_n 0, 1) := by decide +kernel
theorem dX5_init_56 : decode cX5_init 56 = .ok (.iconst 0, 1) := by decide +kernel
theorem dX5_init_57 : decode cX5_init 57 = .ok (.putfield 34, 3) := by decide +kernel
theorem dX5_init_60 : decode cX5_init 60 = .ok (.aload_n 0, 1) := by decide +kernel
theorem dX5_init_61 : decode cX5_init 61 = .ok (.bipush 30, 2) := by decide +kernel
theorem dX5_init_63 : decode cX5_init 63 = .ok (.newarray .int, 2) := by decide +kernel
theorem dX5_init_65 : decode cX5_init 65 = .ok (.putfield 37, 3) := by decide +kernel
theorem dX5_init_68 : decode cX5_init 68 = .ok (.aload_n 0, 1) := by decide +kernel
theorem dX5_init_69 : decode cX5_init 69 = .ok (.bipush 30, 2) := by decide +kernel
theorem dX5_init_71 : decode cX5_init 71 = .ok (.newarray .int, 2) := by decide +kernel
theorem dX5_init_73 : decode cX5_init 73 = .ok (.putfield 40, 3) := by decide +kernel
theorem dX5_init_76 : decode cX5_init 76 = .ok (.aload_n 0, 1) := by decide +kernel
theorem dX5_init_77 : decode cX5_init 77 = .ok (.iconst 0, 1) := by decide +kernel
theorem dX5_init_78 : decode cX5_init 78 = .ok (.putfield 43, 3) := by decide +kernel
theorem dX5_init_81 : decode cX5_init 81 = .ok (.aload_n 0, 1) := by decide +kernel
theorem dX5_init_82 : decode cX5_init 82 = .ok (.iconst 0, 1) := by decide +kernel
theorem dX5_init_83 : decode cX5_init 83 = .ok (.putfield 46, 3) := by decide +kernel
theorem dX5_init_86 : decode cX5_init 86 = .ok (.return_, 1) := by decide +kernel
theorem dX5_append_0 : decode cX5_append 0 = .ok (.aload_n 0, 1) := by decide +kernel
theorem dX5_append_1 : decode cX5_append 1 = .ok (.getfield 15, 3) := by decide +kernel
theorem dX5_append_4 : decode cX5_append 4 = .ok (.bipush 30, 2) := by decide +kernel
theorem dX5_append_6 : decode cX5_append 6 = .ok (.if_icmp .ge 27, 3) := by decide +kernel
theorem dX5_append_9 : decode cX5_append 9 = .ok (.aload_n 0, 1) := by decide +kernel
theorem dX5_append_10 : decode cX5_append 10 = .ok (.getfield 9, 3) := by decide +kernel
theorem dX5_append_13 : decode cX5_append 13 = .ok (.aload_n 0, 1) := by decide +kernel
theorem dX5_append_14 : decode cX5_append 14 = .ok (.getfield 15, 3) := by decide +kernel
theorem dX5_append_17 : decode cX5_append 17 = .ok (.iload_n 1, 1) := by decide +kernel
theorem dX5_append_18 : decode cX5_append 18 = .ok (.iastore, 1) := by decide +kernel
theorem dX5_append_19 : decode cX5_append 19 = .ok (.aload_n 0, 1) := by decide +kernel
theorem dX5_append_20 : decode cX5_append 20 = .ok (.dup, 1) := by decide +kernel
theorem dX5_append_21 : decode cX5_append 21 = .ok (.getfield 15, 3) := by decide +kernel
theorem dX5_append_24 : decode cX5_append 24 = .ok (.iconst 1, 1) := by decide +kernel
theorem dX5_append_25 : decode cX5_append 25 = .ok (.iadd, 1) := by decide +kernel
theorem dX5_append_26 : decode cX5_append 26 = .ok (.putfield 15, 3) := by decide +kernel
theorem dX5_append_29 : decode cX5_append 29 = .ok (.aload_n 0, 1) := by decide +kernel
theorem dX5_append_30 : decode cX5_append 30 = .ok (.invokevirtual 49, 3) := by decide +kernel
theorem dX5_append_33 : decode cX5_append 33 = .ok (.return_, 1) := by decide +kernel
theorem dX5_empty_0 : decode cX5_empty 0 = .ok (.aload_n 0, 1) := by decide +kernel
theorem dX5_empty_1 : decode cX5_empty 1 = .ok (.iconst 0, 1) := by decide +kernel
theorem dX5_empty_2 : decode cX5_empty 2 = .ok (.putfield 15, 3) := by decide +kernel
theorem dX5_empty_5 : decode cX5_empty 5 = .ok (.aload_n 0, 1) := by decide +kernel
theorem dX5_empty_6 : decode cX5_empty 6 = .ok (.invokevirtual 49, 3) := by decide +kernel
theorem dX5_empty_9 : decode cX5_empty 9 = .ok (.return_, 1) := by decide +kernel
theorem dX5_calleeBits_0 : decode cX5_calleeBits 0 = .ok (.iconst 0, 1) := by decide +kernel
theorem dX5_calleeBits_1 : decode cX5_calleeBits 1 = .ok (.istore_n 1, 1) := by decide +kernel
theorem dX5_calleeBits_2 : decode cX5_calleeBits 2 = .ok (.iconst 0, 1) := by decide +kernel
theorem dX5_calleeBits_3 : decode cX5_calleeBits 3 = .ok (.istore_n 2, 1) := by decide +kernel
theorem dX5_calleeBits_4 : decode cX5_calleeBits 4 = .ok (.iload_n 2, 1) := by decide +kernel
theorem dX5_calleeBits_5 : decode cX5_calleeBits 5 = .ok (.aload_n 0, 1) := by decide +kernel
theorem dX5_calleeBits_6 : decode cX5_calleeBits 6 = .ok (.getfield 34, 3) := by decide +kernel
theorem dX5_calleeBits_9 : decode cX5_calleeBits 9 = .ok (.if_icmp .ge 30, 3) := by decide +kernel
theorem dX5_calleeBits_12 : decode cX5_calleeBits 12 = .ok (.aload_n 0, 1) := by decide +kernel
theorem dX5_calleeBits_13 : decode cX5_calleeBits 13 = .ok (.getfield 22, 3) := by decide +kernel
theorem dX5_calleeBits_16 : decode cX5_calleeBits 16 = .ok (.iload_n 2, 1) := by decide +kernel
theorem dX5_calleeBits_17 : decode cX5_calleeBits 17 = .ok (.iaload, 1) := by decide +kernel
theorem dX5_calleeBits_18 : decode cX5_calleeBits 18 = .ok (.iconst 3, 1) := by decide +kernel
theorem dX5_calleeBits_19 : decode cX5_calleeBits 19 = .ok (.if_icmp .ne 14, 3) := by decide +kernel
theorem dX5_calleeBits_22 : decode cX5_calleeBits 22 = .ok (.iload_n 1, 1) := by decide +kernel
theorem dX5_calleeBits_23 : decode cX5_calleeBits 23 = .ok (.iconst 1, 1) := by decide +kernel
theorem dX5_calleeBits_24 : decode cX5_calleeBits 24 = .ok (.aload_n 0, 1) := by decide +kernel
theorem dX5_calleeBits_25 : decode cX5_calleeBits 25 = .ok (.getfield 28, 3) := by decide +kernel
theorem dX5_calleeBits_28 : decode cX5_calleeBits 28 = .ok (.iload_n 2, 1) := by decide +kernel
theorem dX5_calleeBits_29 : decode cX5_calleeBits 29 = .ok (.iaload, 1) := by decide +kernel
theorem dX5_calleeBits_30 : decode cX5_calleeBits 30 = .ok (.ishl, 1) := by decide +kernel
theorem dX5_calleeBits_31 : decode cX5_calleeBits 31 = .ok (.ior, 1) := by decide +kernel
theorem dX5_calleeBits_32 : decode cX5_calleeBits 32 = .ok (.istore_n 1, 1) := by decide +kernel
theorem dX5_calleeBits_33 : decode cX5_calleeBits 33 = .ok (.iinc 2 1, 3) := by decide +kernel
theorem dX5_calleeBits_36 : decode cX5_calleeBits 36 = .ok (.goto (-32), 3) := by decide +kernel
theorem dX5_calleeBits_39 : decode cX5_calleeBits 39 = .ok (.iload_n 1, 1) := by decide +kernel
theorem dX5_calleeBits_40 : decode cX5_calleeBits 40 = .ok (.ireturn, 1) := by decide +kernel
theorem dX5_leafStart_0 : decode cX5_leafStart 0 = .ok (.iload_n 1, 1) := by decide +kernel
theorem dX5_leafStart_1 : decode cX5_leafStart 1 = .ok (.ifCond .ne 7, 3) := by decide +kernel
theorem dX5_leafStart_4 : decode cX5_leafStart 4 = .ok (.iconst 0, 1) := by decide +kernel
theorem dX5_leafStart_5 : decode cX5_leafStart 5 = .ok (.goto 11, 3) := by decide +kernel
theorem dX5_leafStart_8 : decode cX5_leafStart 8 = .ok (.aload_n 0, 1) := by decide +kernel
theorem dX5_leafStart_9 : decode cX5_leafStart 9 = .ok (.getfield 31, 3) := by decide +kernel
theorem dX5_leafStart_12 : decode cX5_leafStart 12 = .ok (.iload_n 1, 1) := by decide +kernel
theorem dX5_leafStart_13 : decode cX5_leafStart 13 = .ok (.iconst 1, 1) := by decide +kernel
theorem dX5_leafStart_14 : decode cX5_leafStart 14 = .ok (.isub, 1) := by decide +kernel
theorem dX5_leafStart_15 : decode cX5_leafStart 15 = .ok (.iaload, 1) := by decide +kernel
theorem dX5_leafStart_16 : decode cX5_leafStart 16 = .ok (.ireturn, 1) := by decide +kernel
theorem dX5_readText_0 : decode cX5_readText 0 = .ok (.aload_n 0, 1) := by decide +kernel
theorem dX5_readText_1 : decode cX5_readText 1 = .ok (.iconst 0, 1) := by decide +kernel
theorem dX5_readText_2 : decode cX5_readText 2 = .ok (.putfield 46, 3) := by decide +kernel
theorem dX5_readText_5 : decode cX5_readText 5 = .ok (.aload_n 0, 1) := by decide +kernel
theorem dX5_readText_6 : decode cX5_readText 6 = .ok (.iconst 0, 1) := by decide +kernel
theorem dX5_readText_7 : decode cX5_readText 7 = .ok (.putfield 34, 3) := by decide +kernel
theorem dX5_readText_10 : decode cX5_readText 10 = .ok (.aload_n 0, 1) := by decide +kernel
theorem dX5_readText_11 : decode cX5_readText 11 = .ok (.iconst 0, 1) := by decide +kernel
theorem dX5_readText_12 : decode cX5_readText 12 = .ok (.putfield 43, 3) := by decide +kernel
theorem dX5_readText_15 : decode cX5_readText 15 = .ok (.iconst 1, 1) := by decide +kernel
theorem dX5_readText_16 : decode cX5_readText 16 = .ok (.istore_n 1, 1) := by decide +kernel
theorem dX5_readText_17 : decode cX5_readText 17 = .ok (.iconst 0, 1) := by decide +kernel
theorem dX5_readText_18 : decode cX5_readText 18 = .ok (.istore_n 2, 1) := by decide +kernel
theorem dX5_readText_19 : decode cX5_readText 19 = .ok (.iload_n 2, 1) := by decide +kernel
theorem dX5_readText_20 : decode cX5_readText 20 = .ok (.bipush 15, 2) := by decide +kernel
theorem dX5_readText_22 : decode cX5_readText 22 = .ok (.if_icmp .ge 30, 3) := by decide +kernel
theorem dX5_readText_25 : decode cX5_readText 25 = .ok (.iload_n 1, 1) := by decide +kernel
theorem dX5_readText_26 : decode cX5_readText 26 = .ok (.ifCond .eq 26, 3) := by decide +kernel
theorem dX5_readText_29 : decode cX5_readText 29 = .ok (.aload_n 0, 1) := by decide +kernel
theorem dX5_readText_30 : decode cX5_readText 30 = .ok (.getfield 46, 3) := by decide +kernel
theorem dX5_readText_33 : decode cX5_readText 33 = .ok (.aload_n 0, 1) := by decide +kernel
theorem dX5_readText_34 : decode cX5_readText 34 = .ok (.getfield 15, 3) := by decide +kernel
theorem dX5_readText_37 : decode cX5_readText 37 = .ok (.if_icmp .ge 15, 3) := by decide +kernel
theorem dX5_readText_40 : decode cX5_readText 40 = .ok (.aload_n 0, 1) := by decide +kernel
theorem dX5_readText_41 : decode cX5_readText 41 = .ok (.iload_n 2, 1) := by decide +kernel
theorem dX5_readText_42 : decode cX5_readText 42 = .ok (.invokevirtual 52, 3) := by decide +kernel
theorem dX5_readText_45 : decode cX5_readText 45 = .ok (.istore_n 1, 1) := by decide +kernel
theorem dX5_readText_46 : decode cX5_readText 46 = .ok (.iinc 2 1, 3) := by decide +kernel
theorem dX5_readText_49 : decode cX5_readText 49 = .ok (.goto (-30), 3) := by decide +kernel
theorem dX5_readText_52 : decode cX5_readText 52 = .ok (.aload_n 0, 1) := by decide +kernel
theorem dX5_readText_53 : decode cX5_readText 53 = .ok (.iload_n 1, 1) := by decide +kernel
theorem dX5_readText_54 : decode cX5_readText 54 = .ok (.ifCond .eq 8, 3) := by decide +kernel
theorem dX5_readText_57 : decode cX5_readText 57 = .ok (.bipush (-6), 2) := by decide +kernel
theorem dX5_readText_59 : decode cX5_readText 59 = .ok (.goto 7, 3) := by decide +kernel
theorem dX5_readText_62 : decode cX5_readText 62 = .ok (.aload_n 0, 1) := by decide +kernel
theorem dX5_readText_63 : decode cX5_readText 63 = .ok (.getfield 46, 3) := by decide +kernel
theorem dX5_readText_66 : decode cX5_readText 66 = .ok (.putfield 19, 3) := by decide +kernel
theorem dX5_readText_69 : decode cX5_readText 69 = .ok (.return_, 1) := by decide +kernel
theorem dX5_readStatement_0 : decode cX5_readStatement 0 = .ok (.aload_n 0, 1) := by decide +kernel
theorem dX5_readStatement_1 : decode cX5_readStatement 1 = .ok (.getfield 9, 3) := by decide +kernel
theorem dX5_readStatement_4 : decode cX5_readStatement 4 = .ok (.aload_n 0, 1) := by decide +kernel
theorem dX5_readStatement_5 : decode cX5_readStatement 5 = .ok (.getfield 46, 3) := by decide +kernel
theorem dX5_readStatement_8 : decode cX5_readStatement 8 = .ok (.iaload, 1) := by decide +kernel
theorem dX5_readStatement_9 : decode cX5_readStatement 9 = .ok (.istore_n 2, 1) := by decide +kernel
theorem dX5_readStatement_10 : decode cX5_readStatement 10 = .ok (.iload_n 2, 1) := by decide +kernel
theorem dX5_readStatement_11 : decode cX5_readStatement 11 = .ok (.bipush 61, 2) := by decide +kernel
theorem dX5_readStatement_13 : decode cX5_readStatement 13 = .ok (.if_icmp .eq 33, 3) := by decide +kernel
theorem dX5_readStatement_16 : decode cX5_readStatement 16 = .ok (.iload_n 2, 1) := by decide +kernel
theorem dX5_readStatement_17 : decode cX5_readStatement 17 = .ok (.bipush 43, 2) := by decide +kernel
theorem dX5_readStatement_19 : decode cX5_readStatement 19 = .ok (.if_icmp .eq 27, 3) := by decide +kernel
theorem dX5_readStatement_22 : decode cX5_readStatement 22 = .ok (.iload_n 2, 1) := by decide +kernel
theorem dX5_readStatement_23 : decode cX5_readStatement 23 = .ok (.bipush 35, 2) := by decide +kernel
theorem dX5_readStatement_25 : decode cX5_readStatement 25 = .ok (.if_icmp .eq 21, 3) := by decide +kernel
theorem dX5_readStatement_28 : decode cX5_readStatement 28 = .ok (.iload_n 2, 1) := by decide +kernel
theorem dX5_readStatement_29 : decode cX5_readStatement 29 = .ok (.bipush 94, 2) := by decide +kernel
theorem dX5_readStatement_31 : decode cX5_readStatement 31 = .ok (.if_icmp .eq 15, 3) := by decide +kernel
theorem dX5_readStatement_34 : decode cX5_readStatement 34 = .ok (.iload_n 2, 1) := by decide +kernel
theorem dX5_readStatement_35 : decode cX5_readStatement 35 = .ok (.bipush 63, 2) := by decide +kernel
theorem dX5_readStatement_37 : decode cX5_readStatement 37 = .ok (.if_icmp .eq 9, 3) := by decide +kernel
theorem dX5_readStatement_40 : decode cX5_readStatement 40 = .ok (.iload_n 2, 1) := by decide +kernel
theorem dX5_readStatement_41 : decode cX5_readStatement 41 = .ok (.bipush 99, 2) := by decide +kernel
theorem dX5_readStatement_43 : decode cX5_readStatement 43 = .ok (.if_icmp .ne 7, 3) := by decide +kernel
theorem dX5_readStatement_46 : decode cX5_readStatement 46 = .ok (.iconst 1, 1) := by decide +kernel
theorem dX5_readStatement_47 : decode cX5_readStatement 47 = .ok (.goto 4, 3) := by decide +kernel
theorem dX5_readStatement_50 : decode cX5_readStatement 50 = .ok (.iconst 0, 1) := by decide +kernel
theorem dX5_readStatement_51 : decode cX5_readStatement 51 = .ok (.istore_n 3, 1) := by decide +kernel
theorem dX5_readStatement_52 : decode cX5_readStatement 52 = .ok (.iload_n 3, 1) := by decide +kernel
theorem dX5_readStatement_53 : decode cX5_readStatement 53 = .ok (.ifCond .ne 5, 3) := by decide +kernel
theorem dX5_readStatement_56 : decode cX5_readStatement 56 = .ok (.iconst 0, 1) := by decide +kernel
theorem dX5_readStatement_57 : decode cX5_readStatement 57 = .ok (.ireturn, 1) := by decide +kernel
theorem dX5_readStatement_58 : decode cX5_readStatement 58 = .ok (.aload_n 0, 1) := by decide +kernel
theorem dX5_readStatement_59 : decode cX5_readStatement 59 = .ok (.dup, 1) := by decide +kernel
theorem dX5_readStatement_60 : decode cX5_readStatement 60 = .ok (.getfield 46, 3) := by decide +kernel
theorem dX5_readStatement_63 : decode cX5_readStatement 63 = .ok (.iconst 1, 1) := by decide +kernel
theorem dX5_readStatement_64 : decode cX5_readStatement 64 = .ok (.iadd, 1) := by decide +kernel
theorem dX5_readStatement_65 : decode cX5_readStatement 65 = .ok (.putfield 46, 3) := by decide +kernel
theorem dX5_readStatement_68 : decode cX5_readStatement 68 = .ok (.aload_n 0, 1) := by decide +kernel
theorem dX5_readStatement_69 : decode cX5_readStatement 69 = .ok (.getfield 22, 3) := by decide +kernel
theorem dX5_readStatement_72 : decode cX5_readStatement 72 = .ok (.iload_n 1, 1) := by decide +kernel
theorem dX5_readStatement_73 : decode cX5_readStatement 73 = .ok (.iload_n 2, 1) := by decide +kernel
theorem dX5_readStatement_74 : decode cX5_readStatement 74 = .ok (.invokestatic 56, 3) := by decide +kernel
theorem dX5_readStatement_77 : decode cX5_readStatement 77 = .ok (.iastore, 1) := by decide +kernel
theorem dX5_readStatement_78 : decode cX5_readStatement 78 = .ok (.aload_n 0, 1) := by decide +kernel
theorem dX5_readStatement_79 : decode cX5_readStatement 79 = .ok (.getfield 22, 3) := by decide +kernel
theorem dX5_readStatement_82 : decode cX5_readStatement 82 = .ok (.iload_n 1, 1) := by decide +kernel
theorem dX5_readStatement_83 : decode cX5_readStatement 83 = .ok (.iaload, 1) := by decide +kernel
theorem dX5_readStatement_84 : decode cX5_readStatement 84 = .ok (.iconst 3, 1) := by decide +kernel
theorem dX5_readStatement_85 : decode cX5_readStatement 85 = .ok (.if_icmp .ne 13, 3) := by decide +kernel
theorem dX5_readStatement_88 : decode cX5_readStatement 88 = .ok (.aload_n 0, 1) := by decide +kernel
theorem dX5_readStatement_89 : decode cX5_readStatement 89 = .ok (.iload_n 1, 1) := by decide +kernel
theorem dX5_readStatement_90 : decode cX5_readStatement 90 = .ok (.invokevirtual 60, 3) := by decide +kernel
theorem dX5_readStatement_93 : decode cX5_readStatement 93 = .ok (.ifCond .ne 5, 3) := by decide +kernel
theorem dX5_readStatement_96 : decode cX5_readStatement 96 = .ok (.iconst 0, 1) := by decide +kernel
theorem dX5_readStatement_97 : decode cX5_readStatement 97 = .ok (.ireturn, 1) := by decide +kernel
theorem dX5_readStatement_98 : decode cX5_readStatement 98 = .ok (.iload_n 2, 1) := by decide +kernel
theorem dX5_readStatement_99 : decode cX5_readStatement 99 = .ok (.bipush 35, 2) := by decide +kernel
theorem dX5_readStatement_101 : decode cX5_readStatement 101 = .ok (.if_icmp .eq 15, 3) := by decide +kernel
theorem dX5_readStatement_104 : decode cX5_readStatement 104 = .ok (.iload_n 2, 1) := by decide +kernel
theorem dX5_readStatement_105 : decode cX5_readStatement 105 = .ok (.bipush 94, 2) := by decide +kernel
theorem dX5_readStatement_107 : decode cX5_readStatement 107 = .ok (.if_icmp .eq 9, 3) := by decide +kernel
theorem dX5_readStatement_110 : decode cX5_readStatement 110 = .ok (.iload_n 2, 1) := by decide +kernel
theorem dX5_readStatement_111 : decode cX5_readStatement 111 = .ok (.bipush 99, 2) := by decide +kernel
theorem dX5_readStatement_113 : decode cX5_readStatement 113 = .ok (.if_icmp .ne 7, 3) := by decide +kernel
theorem dX5_readStatement_116 : decode cX5_readStatement 116 = .ok (.iconst 1, 1) := by decide +kernel
theorem dX5_readStatement_117 : decode cX5_readStatement 117 = .ok (.goto 4, 3) := by decide +kernel
theorem dX5_readStatement_120 : decode cX5_readStatement 120 = .ok (.iconst 0, 1) := by decide +kernel
theorem dX5_readStatement_121 : decode cX5_readStatement 121 = .ok (.istore 4, 2) := by decide +kernel
theorem dX5_readStatement_123 : decode cX5_readStatement 123 = .ok (.aload_n 0, 1) := by decide +kernel
theorem dX5_readStatement_124 : decode cX5_readStatement 124 = .ok (.getfield 25, 3) := by decide +kernel
theorem dX5_readStatement_127 : decode cX5_readStatement 127 = .ok (.iload_n 1, 1) := by decide +kernel
theorem dX5_readStatement_128 : decode cX5_readStatement 128 = .ok (.iload 4, 2) := by decide +kernel
theorem dX5_readStatement_130 : decode cX5_readStatement 130 = .ok (.ifCond .eq 10, 3) := by decide +kernel
theorem dX5_readStatement_133 : decode cX5_readStatement 133 = .ok (.aload_n 0, 1) := by decide +kernel
theorem dX5_readStatement_134 : decode cX5_readStatement 134 = .ok (.invokevirtual 63, 3) := by decide +kernel
theorem dX5_readStatement_137 : decode cX5_readStatement 137 = .ok (.goto 7, 3) := by decide +kernel
theorem dX5_readStatement_140 : decode cX5_readStatement 140 = .ok (.aload_n 0, 1) := by decide +kernel
theorem dX5_readStatement_141 : decode cX5_readStatement 141 = .ok (.invokevirtual 67, 3) := by decide +kernel
theorem dX5_readStatement_144 : decode cX5_readStatement 144 = .ok (.iastore, 1) := by decide +kernel
theorem dX5_readStatement_145 : decode cX5_readStatement 145 = .ok (.aload_n 0, 1) := by decide +kernel
theorem dX5_readStatement_146 : decode cX5_readStatement 146 = .ok (.getfield 25, 3) := by decide +kernel
theorem dX5_readStatement_149 : decode cX5_readStatement 149 = .ok (.iload_n 1, 1) := by decide +kernel
theorem dX5_readStatement_150 : decode cX5_readStatement 150 = .ok (.iaload, 1) := by decide +kernel
theorem dX5_readStatement_151 : decode cX5_readStatement 151 = .ok (.iconst (-1), 1) := by decide +kernel
theorem dX5_readStatement_152 : decode cX5_readStatement 152 = .ok (.if_icmp .ne 5, 3) := by decide +kernel
theorem dX5_readStatement_155 : decode cX5_readStatement 155 = .ok (.iconst 0, 1) := by decide +kernel
theorem dX5_readStatement_156 : decode cX5_readStatement 156 = .ok (.ireturn, 1) := by decide +kernel
theorem dX5_readStatement_157 : decode cX5_readStatement 157 = .ok (.aload_n 0, 1) := by decide +kernel
theorem dX5_readStatement_158 : decode cX5_readStatement 158 = .ok (.getfield 22, 3) := by decide +kernel
theorem dX5_readStatement_161 : decode cX5_readStatement 161 = .ok (.iload_n 1, 1) := by decide +kernel
theorem dX5_readStatement_162 : decode cX5_readStatement 162 = .ok (.iaload, 1) := by decide +kernel
theorem dX5_readStatement_163 : decode cX5_readStatement 163 = .ok (.ifCond .eq 13, 3) := by decide +kernel
theorem dX5_readStatement_166 : decode cX5_readStatement 166 = .ok (.aload_n 0, 1) := by decide +kernel
theorem dX5_readStatement_167 : decode cX5_readStatement 167 = .ok (.getfield 22, 3) := by decide +kernel
theorem dX5_readStatement_170 : decode cX5_readStatement 170 = .ok (.iload_n 1, 1) := by decide +kernel
theorem dX5_readStatement_171 : decode cX5_readStatement 171 = .ok (.iaload, 1) := by decide +kernel
theorem dX5_readStatement_172 : decode cX5_readStatement 172 = .ok (.iconst 1, 1) := by decide +kernel
theorem dX5_readStatement_173 : decode cX5_readStatement 173 = .ok (.if_icmp .ne 7, 3) := by decide +kernel
theorem dX5_readStatement_176 : decode cX5_readStatement 176 = .ok (.iconst 1, 1) := by decide +kernel
theorem dX5_readStatement_177 : decode cX5_readStatement 177 = .ok (.goto 4, 3) := by decide +kernel
theorem dX5_readStatement_180 : decode cX5_readStatement 180 = .ok (.iconst 0, 1) := by decide +kernel
theorem dX5_readStatement_181 : decode cX5_readStatement 181 = .ok (.istore 5, 2) := by decide +kernel
theorem dX5_readStatement_183 : decode cX5_readStatement 183 = .ok (.iload 5, 2) := by decide +kernel
theorem dX5_readStatement_185 : decode cX5_readStatement 185 = .ok (.ifCond .eq 12, 3) := by decide +kernel
theorem dX5_readStatement_188 : decode cX5_readStatement 188 = .ok (.aload_n 0, 1) := by decide +kernel
theorem dX5_readStatement_189 : decode cX5_readStatement 189 = .ok (.invokevirtual 70, 3) := by decide +kernel
theorem dX5_readStatement_192 : decode cX5_readStatement 192 = .ok (.ifCond .ne 5, 3) := by decide +kernel
theorem dX5_readStatement_195 : decode cX5_readStatement 195 = .ok (.iconst 0, 1) := by decide +kernel
theorem dX5_readStatement_196 : decode cX5_readStatement 196 = .ok (.ireturn, 1) := by decide +kernel
theorem dX5_readStatement_197 : decode cX5_readStatement 197 = .ok (.aload_n 0, 1) := by decide +kernel
theorem dX5_readStatement_198 : decode cX5_readStatement 198 = .ok (.getfield 31, 3) := by decide +kernel
theorem dX5_readStatement_201 : decode cX5_readStatement 201 = .ok (.iload_n 1, 1) := by decide +kernel
theorem dX5_readStatement_202 : decode cX5_readStatement 202 = .ok (.aload_n 0, 1) := by decide +kernel
theorem dX5_readStatement_203 : decode cX5_readStatement 203 = .ok (.getfield 43, 3) := by decide +kernel
theorem dX5_readStatement_206 : decode cX5_readStatement 206 = .ok (.iastore, 1) := by decide +kernel
theorem dX5_readStatement_207 : decode cX5_readStatement 207 = .ok (.aload_n 0, 1) := by decide +kernel
theorem dX5_readStatement_208 : decode cX5_readStatement 208 = .ok (.iload_n 1, 1) := by decide +kernel
theorem dX5_readStatement_209 : decode cX5_readStatement 209 = .ok (.iconst 1, 1) := by decide +kernel
theorem dX5_readStatement_210 : decode cX5_readStatement 210 = .ok (.iadd, 1) := by decide +kernel
theorem dX5_readStatement_211 : decode cX5_readStatement 211 = .ok (.putfield 34, 3) := by decide +kernel
theorem dX5_readStatement_214 : decode cX5_readStatement 214 = .ok (.iconst 1, 1) := by decide +kernel
theorem dX5_readStatement_215 : decode cX5_readStatement 215 = .ok (.ireturn, 1) := by decide +kernel
theorem dX5_kindOf_0 : decode cX5_kindOf 0 = .ok (.iload_n 0, 1) := by decide +kernel
theorem dX5_kindOf_1 : decode cX5_kindOf 1 = .ok (.bipush 61, 2) := by decide +kernel
theorem dX5_kindOf_3 : decode cX5_kindOf 3 = .ok (.if_icmp .eq 9, 3) := by decide +kernel
theorem dX5_kindOf_6 : decode cX5_kindOf 6 = .ok (.iload_n 0, 1) := by decide +kernel
theorem dX5_kindOf_7 : decode cX5_kindOf 7 = .ok (.bipush 35, 2) := by decide +kernel
theorem dX5_kindOf_9 : decode cX5_kindOf 9 = .ok (.if_icmp .ne 5, 3) := by decide +kernel
theorem dX5_kindOf_12 : decode cX5_kindOf 12 = .ok (.iconst 0, 1) := by decide +kernel
theorem dX5_kindOf_13 : decode cX5_kindOf 13 = .ok (.ireturn, 1) := by decide +kernel
theorem dX5_kindOf_14 : decode cX5_kindOf 14 = .ok (.iload_n 0, 1) := by decide +kernel
theorem dX5_kindOf_15 : decode cX5_kindOf 15 = .ok (.bipush 43, 2) := by decide +kernel
theorem dX5_kindOf_17 : decode cX5_kindOf 17 = .ok (.if_icmp .eq 9, 3) := by decide +kernel
theorem dX5_kindOf_20 : decode cX5_kindOf 20 = .ok (.iload_n 0, 1) := by decide +kernel
theorem dX5_kindOf_21 : decode cX5_kindOf 21 = .ok (.bipush 94, 2) := by decide +kernel
theorem dX5_kindOf_23 : decode cX5_kindOf 23 = .ok (.if_icmp .ne 5, 3) := by decide +kernel
theorem dX5_kindOf_26 : decode cX5_kindOf 26 = .ok (.iconst 1, 1) := by decide +kernel
theorem dX5_kindOf_27 : decode cX5_kindOf 27 = .ok (.ireturn, 1) := by decide +kernel
theorem dX5_kindOf_28 : decode cX5_kindOf 28 = .ok (.iload_n 0, 1) := by decide +kernel
theorem dX5_kindOf_29 : decode cX5_kindOf 29 = .ok (.bipush 63, 2) := by decide +kernel
theorem dX5_kindOf_31 : decode cX5_kindOf 31 = .ok (.if_icmp .ne 7, 3) := by decide +kernel
theorem dX5_kindOf_34 : decode cX5_kindOf 34 = .ok (.iconst 2, 1) := by decide +kernel
theorem dX5_kindOf_35 : decode cX5_kindOf 35 = .ok (.goto 4, 3) := by decide +kernel
theorem dX5_kindOf_38 : decode cX5_kindOf 38 = .ok (.iconst 3, 1) := by decide +kernel
theorem dX5_kindOf_39 : decode cX5_kindOf 39 = .ok (.ireturn, 1) := by decide +kernel
theorem dX5_readCallee_0 : decode cX5_readCallee 0 = .ok (.aload_n 0, 1) := by decide +kernel
theorem dX5_readCallee_1 : decode cX5_readCallee 1 = .ok (.getfield 46, 3) := by decide +kernel
theorem dX5_readCallee_4 : decode cX5_readCallee 4 = .ok (.aload_n 0, 1) := by decide +kernel
theorem dX5_readCallee_5 : decode cX5_readCallee 5 = .ok (.getfield 15, 3) := by decide +kernel
theorem dX5_readCallee_8 : decode cX5_readCallee 8 = .ok (.if_icmp .ge 31, 3) := by decide +kernel
theorem dX5_readCallee_11 : decode cX5_readCallee 11 = .ok (.aload_n 0, 1) := by decide +kernel
theorem dX5_readCallee_12 : decode cX5_readCallee 12 = .ok (.getfield 9, 3) := by decide +kernel
theorem dX5_readCallee_15 : decode cX5_readCallee 15 = .ok (.aload_n 0, 1) := by decide +kernel
theorem dX5_readCallee_16 : decode cX5_readCallee 16 = .ok (.getfield 46, 3) := by decide +kernel
theorem dX5_readCallee_19 : decode cX5_readCallee 19 = .ok (.iaload, 1) := by decide +kernel
theorem dX5_readCallee_20 : decode cX5_readCallee 20 = .ok (.bipush 48, 2) := by decide +kernel
theorem dX5_readCallee_22 : decode cX5_readCallee 22 = .ok (.if_icmp .lt 17, 3) := by decide +kernel
theorem dX5_readCallee_25 : decode cX5_readCallee 25 = .ok (.aload_n 0, 1) := by decide +kernel
theorem dX5_readCallee_26 : decode cX5_readCallee 26 = .ok (.getfield 9, 3) := by decide +kernel
theorem dX5_readCallee_29 : decode cX5_readCallee 29 = .ok (.aload_n 0, 1) := by decide +kernel
theorem dX5_readCallee_30 : decode cX5_readCallee 30 = .ok (.getfield 46, 3) := by decide +kernel
theorem dX5_readCallee_33 : decode cX5_readCallee 33 = .ok (.iaload, 1) := by decide +kernel
theorem dX5_readCallee_34 : decode cX5_readCallee 34 = .ok (.bipush 54, 2) := by decide +kernel
theorem dX5_readCallee_36 : decode cX5_readCallee 36 = .ok (.if_icmp .lt 5, 3) := by decide +kernel
theorem dX5_readCallee_39 : decode cX5_readCallee 39 = .ok (.iconst 0, 1) := by decide +kernel
theorem dX5_readCallee_40 : decode cX5_readCallee 40 = .ok (.ireturn, 1) := by decide +kernel
theorem dX5_readCallee_41 : decode cX5_readCallee 41 = .ok (.aload_n 0, 1) := by decide +kernel
theorem dX5_readCallee_42 : decode cX5_readCallee 42 = .ok (.getfield 28, 3) := by decide +kernel
theorem dX5_readCallee_45 : decode cX5_readCallee 45 = .ok (.iload_n 1, 1) := by decide +kernel
theorem dX5_readCallee_46 : decode cX5_readCallee 46 = .ok (.aload_n 0, 1) := by decide +kernel
theorem dX5_readCallee_47 : decode cX5_readCallee 47 = .ok (.getfield 9, 3) := by decide +kernel
theorem dX5_readCallee_50 : decode cX5_readCallee 50 = .ok (.aload_n 0, 1) := by decide +kernel
theorem dX5_readCallee_51 : decode cX5_readCallee 51 = .ok (.getfield 46, 3) := by decide +kernel
theorem dX5_readCallee_54 : decode cX5_readCallee 54 = .ok (.iaload, 1) := by decide +kernel
theorem dX5_readCallee_55 : decode cX5_readCallee 55 = .ok (.bipush 48, 2) := by decide +kernel
theorem dX5_readCallee_57 : decode cX5_readCallee 57 = .ok (.isub, 1) := by decide +kernel
theorem dX5_readCallee_58 : decode cX5_readCallee 58 = .ok (.iastore, 1) := by decide +kernel
theorem dX5_readCallee_59 : decode cX5_readCallee 59 = .ok (.aload_n 0, 1) := by decide +kernel
theorem dX5_readCallee_60 : decode cX5_readCallee 60 = .ok (.dup, 1) := by decide +kernel
theorem dX5_readCallee_61 : decode cX5_readCallee 61 = .ok (.getfield 46, 3) := by decide +kernel
theorem dX5_readCallee_64 : decode cX5_readCallee 64 = .ok (.iconst 1, 1) := by decide +kernel
theorem dX5_readCallee_65 : decode cX5_readCallee 65 = .ok (.iadd, 1) := by decide +kernel
theorem dX5_readCallee_66 : decode cX5_readCallee 66 = .ok (.putfield 46, 3) := by decide +kernel
theorem dX5_readCallee_69 : decode cX5_readCallee 69 = .ok (.iconst 1, 1) := by decide +kernel
theorem dX5_readCallee_70 : decode cX5_readCallee 70 = .ok (.ireturn, 1) := by decide +kernel
theorem dX5_readLetter_0 : decode cX5_readLetter 0 = .ok (.aload_n 0, 1) := by decide +kernel
theorem dX5_readLetter_1 : decode cX5_readLetter 1 = .ok (.getfield 46, 3) := by decide +kernel
theorem dX5_readLetter_4 : decode cX5_readLetter 4 = .ok (.aload_n 0, 1) := by decide +kernel
theorem dX5_readLetter_5 : decode cX5_readLetter 5 = .ok (.getfield 15, 3) := by decide +kernel
theorem dX5_readLetter_8 : decode cX5_readLetter 8 = .ok (.if_icmp .ge 18, 3) := by decide +kernel
theorem dX5_readLetter_11 : decode cX5_readLetter 11 = .ok (.aload_n 0, 1) := by decide +kernel
theorem dX5_readLetter_12 : decode cX5_readLetter 12 = .ok (.getfield 9, 3) := by decide +kernel
theorem dX5_readLetter_15 : decode cX5_readLetter 15 = .ok (.aload_n 0, 1) := by decide +kernel
theorem dX5_readLetter_16 : decode cX5_readLetter 16 = .ok (.getfield 46, 3) := by decide +kernel
theorem dX5_readLetter_19 : decode cX5_readLetter 19 = .ok (.iaload, 1) := by decide +kernel
theorem dX5_readLetter_20 : decode cX5_readLetter 20 = .ok (.invokestatic 74, 3) := by decide +kernel
theorem dX5_readLetter_23 : decode cX5_readLetter 23 = .ok (.ifCond .ne 5, 3) := by decide +kernel
theorem dX5_readLetter_26 : decode cX5_readLetter 26 = .ok (.iconst (-1), 1) := by decide +kernel
theorem dX5_readLetter_27 : decode cX5_readLetter 27 = .ok (.ireturn, 1) := by decide +kernel
theorem dX5_readLetter_28 : decode cX5_readLetter 28 = .ok (.aload_n 0, 1) := by decide +kernel
theorem dX5_readLetter_29 : decode cX5_readLetter 29 = .ok (.getfield 9, 3) := by decide +kernel
theorem dX5_readLetter_32 : decode cX5_readLetter 32 = .ok (.aload_n 0, 1) := by decide +kernel
theorem dX5_readLetter_33 : decode cX5_readLetter 33 = .ok (.getfield 46, 3) := by decide +kernel
theorem dX5_readLetter_36 : decode cX5_readLetter 36 = .ok (.iaload, 1) := by decide +kernel
theorem dX5_readLetter_37 : decode cX5_readLetter 37 = .ok (.bipush 97, 2) := by decide +kernel
theorem dX5_readLetter_39 : decode cX5_readLetter 39 = .ok (.isub, 1) := by decide +kernel
theorem dX5_readLetter_40 : decode cX5_readLetter 40 = .ok (.istore_n 1, 1) := by decide +kernel
theorem dX5_readLetter_41 : decode cX5_readLetter 41 = .ok (.aload_n 0, 1) := by decide +kernel
theorem dX5_readLetter_42 : decode cX5_readLetter 42 = .ok (.dup, 1) := by decide +kernel
theorem dX5_readLetter_43 : decode cX5_readLetter 43 = .ok (.getfield 46, 3) := by decide +kernel
theorem dX5_readLetter_46 : decode cX5_readLetter 46 = .ok (.iconst 1, 1) := by decide +kernel
theorem dX5_readLetter_47 : decode cX5_readLetter 47 = .ok (.iadd, 1) := by decide +kernel
theorem dX5_readLetter_48 : decode cX5_readLetter 48 = .ok (.putfield 46, 3) := by decide +kernel
theorem dX5_readLetter_51 : decode cX5_readLetter 51 = .ok (.iload_n 1, 1) := by decide +kernel
theorem dX5_readLetter_52 : decode cX5_readLetter 52 = .ok (.ireturn, 1) := by decide +kernel
theorem dX5_readIndex_0 : decode cX5_readIndex 0 = .ok (.iconst 0, 1) := by decide +kernel
theorem dX5_readIndex_1 : decode cX5_readIndex 1 = .ok (.istore_n 1, 1) := by decide +kernel
theorem dX5_readIndex_2 : decode cX5_readIndex 2 = .ok (.aload_n 0, 1) := by decide +kernel
theorem dX5_readIndex_3 : decode cX5_readIndex 3 = .ok (.getfield 46, 3) := by decide +kernel
theorem dX5_readIndex_6 : decode cX5_readIndex 6 = .ok (.aload_n 0, 1) := by decide +kernel
theorem dX5_readIndex_7 : decode cX5_readIndex 7 = .ok (.getfield 15, 3) := by decide +kernel
theorem dX5_readIndex_10 : decode cX5_readIndex 10 = .ok (.if_icmp .ge 33, 3) := by decide +kernel
theorem dX5_readIndex_13 : decode cX5_readIndex 13 = .ok (.aload_n 0, 1) := by decide +kernel
theorem dX5_readIndex_14 : decode cX5_readIndex 14 = .ok (.getfield 9, 3) := by decide +kernel
theorem dX5_readIndex_17 : decode cX5_readIndex 17 = .ok (.aload_n 0, 1) := by decide +kernel
theorem dX5_readIndex_18 : decode cX5_readIndex 18 = .ok (.getfield 46, 3) := by decide +kernel
theorem dX5_readIndex_21 : decode cX5_readIndex 21 = .ok (.iaload, 1) := by decide +kernel
theorem dX5_readIndex_22 : decode cX5_readIndex 22 = .ok (.bipush 62, 2) := by decide +kernel
theorem dX5_readIndex_24 : decode cX5_readIndex 24 = .ok (.if_icmp .ne 19, 3) := by decide +kernel
theorem dX5_readIndex_27 : decode cX5_readIndex 27 = .ok (.aload_n 0, 1) := by decide +kernel
theorem dX5_readIndex_28 : decode cX5_readIndex 28 = .ok (.dup, 1) := by decide +kernel
theorem dX5_readIndex_29 : decode cX5_readIndex 29 = .ok (.getfield 46, 3) := by decide +kernel
theorem dX5_readIndex_32 : decode cX5_readIndex 32 = .ok (.iconst 1, 1) := by decide +kernel
theorem dX5_readIndex_33 : decode cX5_readIndex 33 = .ok (.iadd, 1) := by decide +kernel
theorem dX5_readIndex_34 : decode cX5_readIndex 34 = .ok (.putfield 46, 3) := by decide +kernel
theorem dX5_readIndex_37 : decode cX5_readIndex 37 = .ok (.iinc 1 1, 3) := by decide +kernel
theorem dX5_readIndex_40 : decode cX5_readIndex 40 = .ok (.goto (-38), 3) := by decide +kernel
theorem dX5_readIndex_43 : decode cX5_readIndex 43 = .ok (.aload_n 0, 1) := by decide +kernel
theorem dX5_readIndex_44 : decode cX5_readIndex 44 = .ok (.getfield 46, 3) := by decide +kernel
theorem dX5_readIndex_47 : decode cX5_readIndex 47 = .ok (.aload_n 0, 1) := by decide +kernel
theorem dX5_readIndex_48 : decode cX5_readIndex 48 = .ok (.getfield 15, 3) := by decide +kernel
theorem dX5_readIndex_51 : decode cX5_readIndex 51 = .ok (.if_icmp .lt 5, 3) := by decide +kernel
theorem dX5_readIndex_54 : decode cX5_readIndex 54 = .ok (.iconst (-1), 1) := by decide +kernel
theorem dX5_readIndex_55 : decode cX5_readIndex 55 = .ok (.ireturn, 1) := by decide +kernel
theorem dX5_readIndex_56 : decode cX5_readIndex 56 = .ok (.aload_n 0, 1) := by decide +kernel
theorem dX5_readIndex_57 : decode cX5_readIndex 57 = .ok (.getfield 9, 3) := by decide +kernel
theorem dX5_readIndex_60 : decode cX5_readIndex 60 = .ok (.aload_n 0, 1) := by decide +kernel
theorem dX5_readIndex_61 : decode cX5_readIndex 61 = .ok (.getfield 46, 3) := by decide +kernel
theorem dX5_readIndex_64 : decode cX5_readIndex 64 = .ok (.iaload, 1) := by decide +kernel
theorem dX5_readIndex_65 : decode cX5_readIndex 65 = .ok (.istore_n 2, 1) := by decide +kernel
theorem dX5_readIndex_66 : decode cX5_readIndex 66 = .ok (.iload_n 2, 1) := by decide +kernel
theorem dX5_readIndex_67 : decode cX5_readIndex 67 = .ok (.bipush 112, 2) := by decide +kernel
theorem dX5_readIndex_69 : decode cX5_readIndex 69 = .ok (.if_icmp .ne 21, 3) := by decide +kernel
theorem dX5_readIndex_72 : decode cX5_readIndex 72 = .ok (.aload_n 0, 1) := by decide +kernel
theorem dX5_readIndex_73 : decode cX5_readIndex 73 = .ok (.dup, 1) := by decide +kernel
theorem dX5_readIndex_74 : decode cX5_readIndex 74 = .ok (.getfield 46, 3) := by decide +kernel
theorem dX5_readIndex_77 : decode cX5_readIndex 77 = .ok (.iconst 1, 1) := by decide +kernel
theorem dX5_readIndex_78 : decode cX5_readIndex 78 = .ok (.iadd, 1) := by decide +kernel
theorem dX5_readIndex_79 : decode cX5_readIndex 79 = .ok (.putfield 46, 3) := by decide +kernel
theorem dX5_readIndex_82 : decode cX5_readIndex 82 = .ok (.bipush 18, 2) := by decide +kernel
theorem dX5_readIndex_84 : decode cX5_readIndex 84 = .ok (.iload_n 1, 1) := by decide +kernel
theorem dX5_readIndex_85 : decode cX5_readIndex 85 = .ok (.bipush 12, 2) := by decide +kernel
theorem dX5_readIndex_87 : decode cX5_readIndex 87 = .ok (.irem, 1) := by decide +kernel
theorem dX5_readIndex_88 : decode cX5_readIndex 88 = .ok (.iadd, 1) := by decide +kernel
theorem dX5_readIndex_89 : decode cX5_readIndex 89 = .ok (.ireturn, 1) := by decide +kernel
theorem dX5_readIndex_90 : decode cX5_readIndex 90 = .ok (.iload_n 2, 1) := by decide +kernel
theorem dX5_readIndex_91 : decode cX5_readIndex 91 = .ok (.invokestatic 77, 3) := by decide +kernel
theorem dX5_readIndex_94 : decode cX5_readIndex 94 = .ok (.ifCond .eq 26, 3) := by decide +kernel
theorem dX5_readIndex_97 : decode cX5_readIndex 97 = .ok (.aload_n 0, 1) := by decide +kernel
theorem dX5_readIndex_98 : decode cX5_readIndex 98 = .ok (.dup, 1) := by decide +kernel
theorem dX5_readIndex_99 : decode cX5_readIndex 99 = .ok (.getfield 46, 3) := by decide +kernel
theorem dX5_readIndex_102 : decode cX5_readIndex 102 = .ok (.iconst 1, 1) := by decide +kernel
theorem dX5_readIndex_103 : decode cX5_readIndex 103 = .ok (.iadd, 1) := by decide +kernel
theorem dX5_readIndex_104 : decode cX5_readIndex 104 = .ok (.putfield 46, 3) := by decide +kernel
theorem dX5_readIndex_107 : decode cX5_readIndex 107 = .ok (.bipush 6, 2) := by decide +kernel
theorem dX5_readIndex_109 : decode cX5_readIndex 109 = .ok (.iload_n 2, 1) := by decide +kernel
theorem dX5_readIndex_110 : decode cX5_readIndex 110 = .ok (.bipush 48, 2) := by decide +kernel
theorem dX5_readIndex_112 : decode cX5_readIndex 112 = .ok (.isub, 1) := by decide +kernel
theorem dX5_readIndex_113 : decode cX5_readIndex 113 = .ok (.iload_n 1, 1) := by decide +kernel
theorem dX5_readIndex_114 : decode cX5_readIndex 114 = .ok (.iadd, 1) := by decide +kernel
theorem dX5_readIndex_115 : decode cX5_readIndex 115 = .ok (.bipush 12, 2) := by decide +kernel
theorem dX5_readIndex_117 : decode cX5_readIndex 117 = .ok (.irem, 1) := by decide +kernel
theorem dX5_readIndex_118 : decode cX5_readIndex 118 = .ok (.iadd, 1) := by decide +kernel
theorem dX5_readIndex_119 : decode cX5_readIndex 119 = .ok (.ireturn, 1) := by decide +kernel
theorem dX5_readIndex_120 : decode cX5_readIndex 120 = .ok (.iconst (-1), 1) := by decide +kernel
theorem dX5_readIndex_121 : decode cX5_readIndex 121 = .ok (.ireturn, 1) := by decide +kernel
theorem dX5_readTerm_0 : decode cX5_readTerm 0 = .ok (.iconst 1, 1) := by decide +kernel
theorem dX5_readTerm_1 : decode cX5_readTerm 1 = .ok (.istore_n 1, 1) := by decide +kernel
theorem dX5_readTerm_2 : decode cX5_readTerm 2 = .ok (.iconst 0, 1) := by decide +kernel
theorem dX5_readTerm_3 : decode cX5_readTerm 3 = .ok (.istore_n 2, 1) := by decide +kernel
theorem dX5_readTerm_4 : decode cX5_readTerm 4 = .ok (.iload_n 2, 1) := by decide +kernel
theorem dX5_readTerm_5 : decode cX5_readTerm 5 = .ok (.bipush 30, 2) := by decide +kernel
theorem dX5_readTerm_7 : decode cX5_readTerm 7 = .ok (.if_icmp .ge 69, 3) := by decide +kernel
theorem dX5_readTerm_10 : decode cX5_readTerm 10 = .ok (.iload_n 1, 1) := by decide +kernel
theorem dX5_readTerm_11 : decode cX5_readTerm 11 = .ok (.ifCond .le 65, 3) := by decide +kernel
theorem dX5_readTerm_14 : decode cX5_readTerm 14 = .ok (.aload_n 0, 1) := by decide +kernel
theorem dX5_readTerm_15 : decode cX5_readTerm 15 = .ok (.getfield 46, 3) := by decide +kernel
theorem dX5_readTerm_18 : decode cX5_readTerm 18 = .ok (.aload_n 0, 1) := by decide +kernel
theorem dX5_readTerm_19 : decode cX5_readTerm 19 = .ok (.getfield 15, 3) := by decide +kernel
theorem dX5_readTerm_22 : decode cX5_readTerm 22 = .ok (.if_icmp .ge 54, 3) := by decide +kernel
theorem dX5_readTerm_25 : decode cX5_readTerm 25 = .ok (.aload_n 0, 1) := by decide +kernel
theorem dX5_readTerm_26 : decode cX5_readTerm 26 = .ok (.getfield 9, 3) := by decide +kernel
theorem dX5_readTerm_29 : decode cX5_readTerm 29 = .ok (.aload_n 0, 1) := by decide +kernel
theorem dX5_readTerm_30 : decode cX5_readTerm 30 = .ok (.getfield 46, 3) := by decide +kernel
theorem dX5_readTerm_33 : decode cX5_readTerm 33 = .ok (.iaload, 1) := by decide +kernel
theorem dX5_readTerm_34 : decode cX5_readTerm 34 = .ok (.bipush 126, 2) := by decide +kernel
theorem dX5_readTerm_36 : decode cX5_readTerm 36 = .ok (.if_icmp .ne 19, 3) := by decide +kernel
theorem dX5_readTerm_39 : decode cX5_readTerm 39 = .ok (.aload_n 0, 1) := by decide +kernel
theorem dX5_readTerm_40 : decode cX5_readTerm 40 = .ok (.dup, 1) := by decide +kernel
theorem dX5_readTerm_41 : decode cX5_readTerm 41 = .ok (.getfield 46, 3) := by decide +kernel
theorem dX5_readTerm_44 : decode cX5_readTerm 44 = .ok (.iconst 1, 1) := by decide +kernel
theorem dX5_readTerm_45 : decode cX5_readTerm 45 = .ok (.iadd, 1) := by decide +kernel
theorem dX5_readTerm_46 : decode cX5_readTerm 46 = .ok (.putfield 46, 3) := by decide +kernel
theorem dX5_readTerm_49 : decode cX5_readTerm 49 = .ok (.iinc 1 1, 3) := by decide +kernel
theorem dX5_readTerm_52 : decode cX5_readTerm 52 = .ok (.goto 18, 3) := by decide +kernel
theorem dX5_readTerm_55 : decode cX5_readTerm 55 = .ok (.aload_n 0, 1) := by decide +kernel
theorem dX5_readTerm_56 : decode cX5_readTerm 56 = .ok (.invokevirtual 80, 3) := by decide +kernel
theorem dX5_readTerm_59 : decode cX5_readTerm 59 = .ok (.ifCond .eq 9, 3) := by decide +kernel
theorem dX5_readTerm_62 : decode cX5_readTerm 62 = .ok (.iinc 1 (-1), 3) := by decide +kernel
theorem dX5_readTerm_65 : decode cX5_readTerm 65 = .ok (.goto 5, 3) := by decide +kernel
theorem dX5_readTerm_68 : decode cX5_readTerm 68 = .ok (.iconst 0, 1) := by decide +kernel
theorem dX5_readTerm_69 : decode cX5_readTerm 69 = .ok (.ireturn, 1) := by decide +kernel
theorem dX5_readTerm_70 : decode cX5_readTerm 70 = .ok (.iinc 2 1, 3) := by decide +kernel
theorem dX5_readTerm_73 : decode cX5_readTerm 73 = .ok (.goto (-69), 3) := by decide +kernel
theorem dX5_readTerm_76 : decode cX5_readTerm 76 = .ok (.iload_n 1, 1) := by decide +kernel
theorem dX5_readTerm_77 : decode cX5_readTerm 77 = .ok (.ifCond .ne 7, 3) := by decide +kernel
theorem dX5_readTerm_80 : decode cX5_readTerm 80 = .ok (.iconst 1, 1) := by decide +kernel
theorem dX5_readTerm_81 : decode cX5_readTerm 81 = .ok (.goto 4, 3) := by decide +kernel
theorem dX5_readTerm_84 : decode cX5_readTerm 84 = .ok (.iconst 0, 1) := by decide +kernel
theorem dX5_readTerm_85 : decode cX5_readTerm 85 = .ok (.ireturn, 1) := by decide +kernel
theorem dX5_readLeaf_0 : decode cX5_readLeaf 0 = .ok (.aload_n 0, 1) := by decide +kernel
theorem dX5_readLeaf_1 : decode cX5_readLeaf 1 = .ok (.getfield 9, 3) := by decide +kernel
theorem dX5_readLeaf_4 : decode cX5_readLeaf 4 = .ok (.aload_n 0, 1) := by decide +kernel
theorem dX5_readLeaf_5 : decode cX5_readLeaf 5 = .ok (.getfield 46, 3) := by decide +kernel
theorem dX5_readLeaf_8 : decode cX5_readLeaf 8 = .ok (.iaload, 1) := by decide +kernel
theorem dX5_readLeaf_9 : decode cX5_readLeaf 9 = .ok (.istore_n 1, 1) := by decide +kernel
theorem dX5_readLeaf_10 : decode cX5_readLeaf 10 = .ok (.iload_n 1, 1) := by decide +kernel
theorem dX5_readLeaf_11 : decode cX5_readLeaf 11 = .ok (.invokestatic 77, 3) := by decide +kernel
theorem dX5_readLeaf_14 : decode cX5_readLeaf 14 = .ok (.ifCond .eq 23, 3) := by decide +kernel
theorem dX5_readLeaf_17 : decode cX5_readLeaf 17 = .ok (.aload_n 0, 1) := by decide +kernel
theorem dX5_readLeaf_18 : decode cX5_readLeaf 18 = .ok (.dup, 1) := by decide +kernel
theorem dX5_readLeaf_19 : decode cX5_readLeaf 19 = .ok (.getfield 46, 3) := by decide +kernel
theorem dX5_readLeaf_22 : decode cX5_readLeaf 22 = .ok (.iconst 1, 1) := by decide +kernel
theorem dX5_readLeaf_23 : decode cX5_readLeaf 23 = .ok (.iadd, 1) := by decide +kernel
theorem dX5_readLeaf_24 : decode cX5_readLeaf 24 = .ok (.putfield 46, 3) := by decide +kernel
theorem dX5_readLeaf_27 : decode cX5_readLeaf 27 = .ok (.aload_n 0, 1) := by decide +kernel
theorem dX5_readLeaf_28 : decode cX5_readLeaf 28 = .ok (.iconst 0, 1) := by decide +kernel
theorem dX5_readLeaf_29 : decode cX5_readLeaf 29 = .ok (.iload_n 1, 1) := by decide +kernel
theorem dX5_readLeaf_30 : decode cX5_readLeaf 30 = .ok (.bipush 48, 2) := by decide +kernel
theorem dX5_readLeaf_32 : decode cX5_readLeaf 32 = .ok (.isub, 1) := by decide +kernel
theorem dX5_readLeaf_33 : decode cX5_readLeaf 33 = .ok (.invokevirtual 83, 3) := by decide +kernel
theorem dX5_readLeaf_36 : decode cX5_readLeaf 36 = .ok (.ireturn, 1) := by decide +kernel
theorem dX5_readLeaf_37 : decode cX5_readLeaf 37 = .ok (.iload_n 1, 1) := by decide +kernel
theorem dX5_readLeaf_38 : decode cX5_readLeaf 38 = .ok (.bipush 112, 2) := by decide +kernel
theorem dX5_readLeaf_40 : decode cX5_readLeaf 40 = .ok (.if_icmp .ne 20, 3) := by decide +kernel
theorem dX5_readLeaf_43 : decode cX5_readLeaf 43 = .ok (.aload_n 0, 1) := by decide +kernel
theorem dX5_readLeaf_44 : decode cX5_readLeaf 44 = .ok (.dup, 1) := by decide +kernel
theorem dX5_readLeaf_45 : decode cX5_readLeaf 45 = .ok (.getfield 46, 3) := by decide +kernel
theorem dX5_readLeaf_48 : decode cX5_readLeaf 48 = .ok (.iconst 1, 1) := by decide +kernel
theorem dX5_readLeaf_49 : decode cX5_readLeaf 49 = .ok (.iadd, 1) := by decide +kernel
theorem dX5_readLeaf_50 : decode cX5_readLeaf 50 = .ok (.putfield 46, 3) := by decide +kernel
theorem dX5_readLeaf_53 : decode cX5_readLeaf 53 = .ok (.aload_n 0, 1) := by decide +kernel
theorem dX5_readLeaf_54 : decode cX5_readLeaf 54 = .ok (.iconst 1, 1) := by decide +kernel
theorem dX5_readLeaf_55 : decode cX5_readLeaf 55 = .ok (.iconst 0, 1) := by decide +kernel
theorem dX5_readLeaf_56 : decode cX5_readLeaf 56 = .ok (.invokevirtual 83, 3) := by decide +kernel
theorem dX5_readLeaf_59 : decode cX5_readLeaf 59 = .ok (.ireturn, 1) := by decide +kernel
theorem dX5_readLeaf_60 : decode cX5_readLeaf 60 = .ok (.iload_n 1, 1) := by decide +kernel
theorem dX5_readLeaf_61 : decode cX5_readLeaf 61 = .ok (.invokestatic 74, 3) := by decide +kernel
theorem dX5_readLeaf_64 : decode cX5_readLeaf 64 = .ok (.ifCond .eq 23, 3) := by decide +kernel
theorem dX5_readLeaf_67 : decode cX5_readLeaf 67 = .ok (.aload_n 0, 1) := by decide +kernel
theorem dX5_readLeaf_68 : decode cX5_readLeaf 68 = .ok (.dup, 1) := by decide +kernel
theorem dX5_readLeaf_69 : decode cX5_readLeaf 69 = .ok (.getfield 46, 3) := by decide +kernel
theorem dX5_readLeaf_72 : decode cX5_readLeaf 72 = .ok (.iconst 1, 1) := by decide +kernel
theorem dX5_readLeaf_73 : decode cX5_readLeaf 73 = .ok (.iadd, 1) := by decide +kernel
theorem dX5_readLeaf_74 : decode cX5_readLeaf 74 = .ok (.putfield 46, 3) := by decide +kernel
theorem dX5_readLeaf_77 : decode cX5_readLeaf 77 = .ok (.aload_n 0, 1) := by decide +kernel
theorem dX5_readLeaf_78 : decode cX5_readLeaf 78 = .ok (.iconst 2, 1) := by decide +kernel
theorem dX5_readLeaf_79 : decode cX5_readLeaf 79 = .ok (.iload_n 1, 1) := by decide +kernel
theorem dX5_readLeaf_80 : decode cX5_readLeaf 80 = .ok (.bipush 97, 2) := by decide +kernel
theorem dX5_readLeaf_82 : decode cX5_readLeaf 82 = .ok (.isub, 1) := by decide +kernel
theorem dX5_readLeaf_83 : decode cX5_readLeaf 83 = .ok (.invokevirtual 83, 3) := by decide +kernel
theorem dX5_readLeaf_86 : decode cX5_readLeaf 86 = .ok (.ireturn, 1) := by decide +kernel
theorem dX5_readLeaf_87 : decode cX5_readLeaf 87 = .ok (.iload_n 1, 1) := by decide +kernel
theorem dX5_readLeaf_88 : decode cX5_readLeaf 88 = .ok (.bipush 64, 2) := by decide +kernel
theorem dX5_readLeaf_90 : decode cX5_readLeaf 90 = .ok (.if_icmp .ne 23, 3) := by decide +kernel
theorem dX5_readLeaf_93 : decode cX5_readLeaf 93 = .ok (.aload_n 0, 1) := by decide +kernel
theorem dX5_readLeaf_94 : decode cX5_readLeaf 94 = .ok (.dup, 1) := by decide +kernel
theorem dX5_readLeaf_95 : decode cX5_readLeaf 95 = .ok (.getfield 46, 3) := by decide +kernel
theorem dX5_readLeaf_98 : decode cX5_readLeaf 98 = .ok (.iconst 1, 1) := by decide +kernel
theorem dX5_readLeaf_99 : decode cX5_readLeaf 99 = .ok (.iadd, 1) := by decide +kernel
theorem dX5_readLeaf_100 : decode cX5_readLeaf 100 = .ok (.putfield 46, 3) := by decide +kernel
theorem dX5_readLeaf_103 : decode cX5_readLeaf 103 = .ok (.aload_n 0, 1) := by decide +kernel
theorem dX5_readLeaf_104 : decode cX5_readLeaf 104 = .ok (.iconst 2, 1) := by decide +kernel
theorem dX5_readLeaf_105 : decode cX5_readLeaf 105 = .ok (.aload_n 0, 1) := by decide +kernel
theorem dX5_readLeaf_106 : decode cX5_readLeaf 106 = .ok (.invokevirtual 63, 3) := by decide +kernel
theorem dX5_readLeaf_109 : decode cX5_readLeaf 109 = .ok (.invokevirtual 83, 3) := by decide +kernel
theorem dX5_readLeaf_112 : decode cX5_readLeaf 112 = .ok (.ireturn, 1) := by decide +kernel
theorem dX5_readLeaf_113 : decode cX5_readLeaf 113 = .ok (.iconst 0, 1) := by decide +kernel
theorem dX5_readLeaf_114 : decode cX5_readLeaf 114 = .ok (.ireturn, 1) := by decide +kernel
theorem dX5_addLeaf_0 : decode cX5_addLeaf 0 = .ok (.iload_n 2, 1) := by decide +kernel
theorem dX5_addLeaf_1 : decode cX5_addLeaf 1 = .ok (.iconst (-1), 1) := by decide +kernel
theorem dX5_addLeaf_2 : decode cX5_addLeaf 2 = .ok (.if_icmp .eq 12, 3) := by decide +kernel
theorem dX5_addLeaf_5 : decode cX5_addLeaf 5 = .ok (.aload_n 0, 1) := by decide +kernel
theorem dX5_addLeaf_6 : decode cX5_addLeaf 6 = .ok (.getfield 43, 3) := by decide +kernel
theorem dX5_addLeaf_9 : decode cX5_addLeaf 9 = .ok (.bipush 30, 2) := by decide +kernel
theorem dX5_addLeaf_11 : decode cX5_addLeaf 11 = .ok (.if_icmp .lt 5, 3) := by decide +kernel
theorem dX5_addLeaf_14 : decode cX5_addLeaf 14 = .ok (.iconst 0, 1) := by decide +kernel
theorem dX5_addLeaf_15 : decode cX5_addLeaf 15 = .ok (.ireturn, 1) := by decide +kernel
theorem dX5_addLeaf_16 : decode cX5_addLeaf 16 = .ok (.aload_n 0, 1) := by decide +kernel
theorem dX5_addLeaf_17 : decode cX5_addLeaf 17 = .ok (.getfield 37, 3) := by decide +kernel
theorem dX5_addLeaf_20 : decode cX5_addLeaf 20 = .ok (.aload_n 0, 1) := by decide +kernel
theorem dX5_addLeaf_21 : decode cX5_addLeaf 21 = .ok (.getfield 43, 3) := by decide +kernel
theorem dX5_addLeaf_24 : decode cX5_addLeaf 24 = .ok (.iload_n 1, 1) := by decide +kernel
theorem dX5_addLeaf_25 : decode cX5_addLeaf 25 = .ok (.iastore, 1) := by decide +kernel
theorem dX5_addLeaf_26 : decode cX5_addLeaf 26 = .ok (.aload_n 0, 1) := by decide +kernel
theorem dX5_addLeaf_27 : decode cX5_addLeaf 27 = .ok (.getfield 40, 3) := by decide +kernel
theorem dX5_addLeaf_30 : decode cX5_addLeaf 30 = .ok (.aload_n 0, 1) := by decide +kernel
theorem dX5_addLeaf_31 : decode cX5_addLeaf 31 = .ok (.getfield 43, 3) := by decide +kernel
theorem dX5_addLeaf_34 : decode cX5_addLeaf 34 = .ok (.iload_n 2, 1) := by decide +kernel
theorem dX5_addLeaf_35 : decode cX5_addLeaf 35 = .ok (.iastore, 1) := by decide +kernel
theorem dX5_addLeaf_36 : decode cX5_addLeaf 36 = .ok (.aload_n 0, 1) := by decide +kernel
theorem dX5_addLeaf_37 : decode cX5_addLeaf 37 = .ok (.dup, 1) := by decide +kernel
theorem dX5_addLeaf_38 : decode cX5_addLeaf 38 = .ok (.getfield 43, 3) := by decide +kernel
theorem dX5_addLeaf_41 : decode cX5_addLeaf 41 = .ok (.iconst 1, 1) := by decide +kernel
theorem dX5_addLeaf_42 : decode cX5_addLeaf 42 = .ok (.iadd, 1) := by decide +kernel
theorem dX5_addLeaf_43 : decode cX5_addLeaf 43 = .ok (.putfield 43, 3) := by decide +kernel
theorem dX5_addLeaf_46 : decode cX5_addLeaf 46 = .ok (.iconst 1, 1) := by decide +kernel
theorem dX5_addLeaf_47 : decode cX5_addLeaf 47 = .ok (.ireturn, 1) := by decide +kernel
theorem dX5_isFigure_0 : decode cX5_isFigure 0 = .ok (.iload_n 0, 1) := by decide +kernel
theorem dX5_isFigure_1 : decode cX5_isFigure 1 = .ok (.bipush 48, 2) := by decide +kernel
theorem dX5_isFigure_3 : decode cX5_isFigure 3 = .ok (.if_icmp .lt 13, 3) := by decide +kernel
theorem dX5_isFigure_6 : decode cX5_isFigure 6 = .ok (.iload_n 0, 1) := by decide +kernel
theorem dX5_isFigure_7 : decode cX5_isFigure 7 = .ok (.bipush 57, 2) := by decide +kernel
theorem dX5_isFigure_9 : decode cX5_isFigure 9 = .ok (.if_icmp .gt 7, 3) := by decide +kernel
theorem dX5_isFigure_12 : decode cX5_isFigure 12 = .ok (.iconst 1, 1) := by decide +kernel
theorem dX5_isFigure_13 : decode cX5_isFigure 13 = .ok (.goto 4, 3) := by decide +kernel
theorem dX5_isFigure_16 : decode cX5_isFigure 16 = .ok (.iconst 0, 1) := by decide +kernel
theorem dX5_isFigure_17 : decode cX5_isFigure 17 = .ok (.ireturn, 1) := by decide +kernel
theorem dX5_isLetter_0 : decode cX5_isLetter 0 = .ok (.iload_n 0, 1) := by decide +kernel
theorem dX5_isLetter_1 : decode cX5_isLetter 1 = .ok (.bipush 97, 2) := by decide +kernel
theorem dX5_isLetter_3 : decode cX5_isLetter 3 = .ok (.if_icmp .lt 13, 3) := by decide +kernel
theorem dX5_isLetter_6 : decode cX5_isLetter 6 = .ok (.iload_n 0, 1) := by decide +kernel
theorem dX5_isLetter_7 : decode cX5_isLetter 7 = .ok (.bipush 103, 2) := by decide +kernel
theorem dX5_isLetter_9 : decode cX5_isLetter 9 = .ok (.if_icmp .ge 7, 3) := by decide +kernel
theorem dX5_isLetter_12 : decode cX5_isLetter 12 = .ok (.iconst 1, 1) := by decide +kernel
theorem dX5_isLetter_13 : decode cX5_isLetter 13 = .ok (.goto 4, 3) := by decide +kernel
theorem dX5_isLetter_16 : decode cX5_isLetter 16 = .ok (.iconst 0, 1) := by decide +kernel
theorem dX5_isLetter_17 : decode cX5_isLetter 17 = .ok (.ireturn, 1) := by decide +kernel
theorem dX6_init_0 : decode cX6_init 0 = .ok (.aload_n 0, 1) := by decide +kernel
theorem dX6_init_1 : decode cX6_init 1 = .ok (.invokespecial 3, 3) := by decide +kernel
theorem dX6_init_4 : decode cX6_init 4 = .ok (.aload_n 0, 1) := by decide +kernel
theorem dX6_init_5 : decode cX6_init 5 = .ok (.bipush 6, 2) := by decide +kernel
theorem dX6_init_7 : decode cX6_init 7 = .ok (.anewarray 9, 3) := by decide +kernel
theorem dX6_init_10 : decode cX6_init 10 = .ok (.putfield 11, 3) := by decide +kernel
theorem dX6_init_13 : decode cX6_init 13 = .ok (.aload_n 0, 1) := by decide +kernel
theorem dX6_init_14 : decode cX6_init 14 = .ok (.new 15, 3) := by decide +kernel
theorem dX6_init_17 : decode cX6_init 17 = .ok (.dup, 1) := by decide +kernel
theorem dX6_init_18 : decode cX6_init 18 = .ok (.invokespecial 17, 3) := by decide +kernel
theorem dX6_init_21 : decode cX6_init 21 = .ok (.putfield 18, 3) := by decide +kernel
theorem dX6_init_24 : decode cX6_init 24 = .ok (.aload_n 0, 1) := by decide +kernel
theorem dX6_init_25 : decode cX6_init 25 = .ok (.bipush 18, 2) := by decide +kernel
theorem dX6_init_27 : decode cX6_init 27 = .ok (.newarray .int, 2) := by decide +kernel
theorem dX6_init_29 : decode cX6_init 29 = .ok (.putfield 22, 3) := by decide +kernel
theorem dX6_init_32 : decode cX6_init 32 = .ok (.aload_n 0, 1) := by decide +kernel
theorem dX6_init_33 : decode cX6_init 33 = .ok (.new 26, 3) := by decide +kernel
theorem dX6_init_36 : decode cX6_init 36 = .ok (.dup, 1) := by decide +kernel
theorem dX6_init_37 : decode cX6_init 37 = .ok (.invokespecial 28, 3) := by decide +kernel
theorem dX6_init_40 : decode cX6_init 40 = .ok (.putfield 29, 3) := by decide +kernel
theorem dX6_init_43 : decode cX6_init 43 = .ok (.aload_n 0, 1) := by decide +kernel
theorem dX6_init_44 : decode cX6_init 44 = .ok (.iconst 2, 1) := by decide +kernel
theorem dX6_init_45 : decode cX6_init 45 = .ok (.anewarray 33, 3) := by decide +kernel
theorem dX6_init_48 : decode cX6_init 48 = .ok (.putfield 35, 3) := by decide +kernel
theorem dX6_init_51 : decode cX6_init 51 = .ok (.aload_n 0, 1) := by decide +kernel
theorem dX6_init_52 : decode cX6_init 52 = .ok (.new 39, 3) := by decide +kernel
theorem dX6_init_55 : decode cX6_init 55 = .ok (.dup, 1) := by decide +kernel
theorem dX6_init_56 : decode cX6_init 56 = .ok (.invokespecial 41, 3) := by decide +kernel
theorem dX6_init_59 : decode cX6_init 59 = .ok (.putfield 42, 3) := by decide +kernel
theorem dX6_init_62 : decode cX6_init 62 = .ok (.aload_n 0, 1) := by decide +kernel
theorem dX6_init_63 : decode cX6_init 63 = .ok (.new 39, 3) := by decide +kernel
theorem dX6_init_66 : decode cX6_init 66 = .ok (.dup, 1) := by decide +kernel
theorem dX6_init_67 : decode cX6_init 67 = .ok (.invokespecial 41, 3) := by decide +kernel
theorem dX6_init_70 : decode cX6_init 70 = .ok (.putfield 46, 3) := by decide +kernel
theorem dX6_init_73 : decode cX6_init 73 = .ok (.aload_n 0, 1) := by decide +kernel
theorem dX6_init_74 : decode cX6_init 74 = .ok (.new 49, 3) := by decide +kernel
theorem dX6_init_77 : decode cX6_init 77 = .ok (.dup, 1) := by decide +kernel
theorem dX6_init_78 : decode cX6_init 78 = .ok (.invokespecial 51, 3) := by decide +kernel
theorem dX6_init_81 : decode cX6_init 81 = .ok (.putfield 52, 3) := by decide +kernel
theorem dX6_init_84 : decode cX6_init 84 = .ok (.iconst 0, 1) := by decide +kernel
theorem dX6_init_85 : decode cX6_init 85 = .ok (.istore_n 1, 1) := by decide +kernel
theorem dX6_init_86 : decode cX6_init 86 = .ok (.iload_n 1, 1) := by decide +kernel
theorem dX6_init_87 : decode cX6_init 87 = .ok (.bipush 6, 2) := by decide +kernel
theorem dX6_init_89 : decode cX6_init 89 = .ok (.if_icmp .ge 22, 3) := by decide +kernel
theorem dX6_init_92 : decode cX6_init 92 = .ok (.aload_n 0, 1) := by decide +kernel
theorem dX6_init_93 : decode cX6_init 93 = .ok (.getfield 11, 3) := by decide +kernel
theorem dX6_init_96 : decode cX6_init 96 = .ok (.iload_n 1, 1) := by decide +kernel
theorem dX6_init_97 : decode cX6_init 97 = .ok (.new 9, 3) := by decide +kernel
theorem dX6_init_100 : decode cX6_init 100 = .ok (.dup, 1) := by decide +kernel
theorem dX6_init_101 : decode cX6_init 101 = .ok (.invokespecial 56, 3) := by decide +kernel
theorem dX6_init_104 : decode cX6_init 104 = .ok (.aastore, 1) := by decide +kernel
theorem dX6_init_105 : decode cX6_init 105 = .ok (.iinc 1 1, 3) := by decide +kernel
theorem dX6_init_108 : decode cX6_init 108 = .ok (.goto (-22), 3) := by decide +kernel
theorem dX6_init_111 : decode cX6_init 111 = .ok (.iconst 0, 1) := by decide +kernel
theorem dX6_init_112 : decode cX6_init 112 = .ok (.istore_n 1, 1) := by decide +kernel
theorem dX6_init_113 : decode cX6_init 113 = .ok (.iload_n 1, 1) := by decide +kernel
theorem dX6_init_114 : decode cX6_init 114 = .ok (.iconst 2, 1) := by decide +kernel
theorem dX6_init_115 : decode cX6_init 115 = .ok (.if_icmp .ge 22, 3) := by decide +kernel
theorem dX6_init_118 : decode cX6_init 118 = .ok (.aload_n 0, 1) := by decide +kernel
theorem dX6_init_119 : decode cX6_init 119 = .ok (.getfield 35, 3) := by decide +kernel
theorem dX6_init_122 : decode cX6_init 122 = .ok (.iload_n 1, 1) := by decide +kernel
theorem dX6_init_123 : decode cX6_init 123 = .ok (.new 33, 3) := by decide +kernel
theorem dX6_init_126 : decode cX6_init 126 = .ok (.dup, 1) := by decide +kernel
theorem dX6_init_127 : decode cX6_init 127 = .ok (.invokespecial 57, 3) := by decide +kernel
theorem dX6_init_130 : decode cX6_init 130 = .ok (.aastore, 1) := by decide +kernel
theorem dX6_init_131 : decode cX6_init 131 = .ok (.iinc 1 1, 3) := by decide +kernel
end
section
theorem dX6_init_134 : decode cX6_init 134 = .ok (.goto (-21), 3) := by decide +kernel
theorem dX6_init_137 : decode cX6_init 137 = .ok (.return_, 1) := by decide +kernel
theorem dX6_say_0 : decode cX6_say 0 = .ok (.iload_n 1, 1) := by decide +kernel
theorem dX6_say_1 : decode cX6_say 1 = .ok (.bipush 6, 2) := by decide +kernel
theorem dX6_say_3 : decode cX6_say 3 = .ok (.invokestatic 58, 3) := by decide +kernel
theorem dX6_say_6 : decode cX6_say 6 = .ok (.ifCond .ne 5, 3) := by decide +kernel
theorem dX6_say_9 : decode cX6_say 9 = .ok (.iconst (-1), 1) := by decide +kernel
theorem dX6_say_10 : decode cX6_say 10 = .ok (.ireturn, 1) := by decide +kernel
theorem dX6_say_11 : decode cX6_say 11 = .ok (.iload_n 2, 1) := by decide +kernel
theorem dX6_say_12 : decode cX6_say 12 = .ok (.bipush 33, 2) := by decide +kernel
theorem dX6_say_14 : decode cX6_say 14 = .ok (.if_icmp .lt 9, 3) := by decide +kernel
theorem dX6_say_17 : decode cX6_say 17 = .ok (.iload_n 2, 1) := by decide +kernel
theorem dX6_say_18 : decode cX6_say 18 = .ok (.bipush 126, 2) := by decide +kernel
theorem dX6_say_20 : decode cX6_say 20 = .ok (.if_icmp .le 6, 3) := by decide +kernel
theorem dX6_say_23 : decode cX6_say 23 = .ok (.bipush (-2), 2) := by decide +kernel
theorem dX6_say_25 : decode cX6_say 25 = .ok (.ireturn, 1) := by decide +kernel
theorem dX6_say_26 : decode cX6_say 26 = .ok (.aload_n 0, 1) := by decide +kernel
theorem dX6_say_27 : decode cX6_say 27 = .ok (.getfield 11, 3) := by decide +kernel
theorem dX6_say_30 : decode cX6_say 30 = .ok (.iload_n 1, 1) := by decide +kernel
theorem dX6_say_31 : decode cX6_say 31 = .ok (.aaload, 1) := by decide +kernel
theorem dX6_say_32 : decode cX6_say 32 = .ok (.getfield 62, 3) := by decide +kernel
theorem dX6_say_35 : decode cX6_say 35 = .ok (.bipush 30, 2) := by decide +kernel
theorem dX6_say_37 : decode cX6_say 37 = .ok (.if_icmp .lt 6, 3) := by decide +kernel
theorem dX6_say_40 : decode cX6_say 40 = .ok (.bipush (-4), 2) := by decide +kernel
theorem dX6_say_42 : decode cX6_say 42 = .ok (.ireturn, 1) := by decide +kernel
theorem dX6_say_43 : decode cX6_say 43 = .ok (.aload_n 0, 1) := by decide +kernel
theorem dX6_say_44 : decode cX6_say 44 = .ok (.getfield 11, 3) := by decide +kernel
theorem dX6_say_47 : decode cX6_say 47 = .ok (.iload_n 1, 1) := by decide +kernel
theorem dX6_say_48 : decode cX6_say 48 = .ok (.aaload, 1) := by decide +kernel
theorem dX6_say_49 : decode cX6_say 49 = .ok (.iload_n 2, 1) := by decide +kernel
theorem dX6_say_50 : decode cX6_say 50 = .ok (.invokevirtual 66, 3) := by decide +kernel
theorem dX6_say_53 : decode cX6_say 53 = .ok (.aload_n 0, 1) := by decide +kernel
theorem dX6_say_54 : decode cX6_say 54 = .ok (.getfield 18, 3) := by decide +kernel
theorem dX6_say_57 : decode cX6_say 57 = .ok (.invokevirtual 70, 3) := by decide +kernel
theorem dX6_say_60 : decode cX6_say 60 = .ok (.aload_n 0, 1) := by decide +kernel
theorem dX6_say_61 : decode cX6_say 61 = .ok (.getfield 11, 3) := by decide +kernel
theorem dX6_say_64 : decode cX6_say 64 = .ok (.iload_n 1, 1) := by decide +kernel
theorem dX6_say_65 : decode cX6_say 65 = .ok (.aaload, 1) := by decide +kernel
theorem dX6_say_66 : decode cX6_say 66 = .ok (.getfield 62, 3) := by decide +kernel
theorem dX6_say_69 : decode cX6_say 69 = .ok (.ireturn, 1) := by decide +kernel
theorem dX6_wipe_0 : decode cX6_wipe 0 = .ok (.iload_n 1, 1) := by decide +kernel
theorem dX6_wipe_1 : decode cX6_wipe 1 = .ok (.bipush 6, 2) := by decide +kernel
theorem dX6_wipe_3 : decode cX6_wipe 3 = .ok (.invokestatic 58, 3) := by decide +kernel
theorem dX6_wipe_6 : decode cX6_wipe 6 = .ok (.ifCond .ne 5, 3) := by decide +kernel
theorem dX6_wipe_9 : decode cX6_wipe 9 = .ok (.iconst (-1), 1) := by decide +kernel
theorem dX6_wipe_10 : decode cX6_wipe 10 = .ok (.ireturn, 1) := by decide +kernel
theorem dX6_wipe_11 : decode cX6_wipe 11 = .ok (.aload_n 0, 1) := by decide +kernel
theorem dX6_wipe_12 : decode cX6_wipe 12 = .ok (.getfield 11, 3) := by decide +kernel
theorem dX6_wipe_15 : decode cX6_wipe 15 = .ok (.iload_n 1, 1) := by decide +kernel
theorem dX6_wipe_16 : decode cX6_wipe 16 = .ok (.aaload, 1) := by decide +kernel
theorem dX6_wipe_17 : decode cX6_wipe 17 = .ok (.getfield 62, 3) := by decide +kernel
theorem dX6_wipe_20 : decode cX6_wipe 20 = .ok (.istore_n 2, 1) := by decide +kernel
theorem dX6_wipe_21 : decode cX6_wipe 21 = .ok (.aload_n 0, 1) := by decide +kernel
theorem dX6_wipe_22 : decode cX6_wipe 22 = .ok (.getfield 11, 3) := by decide +kernel
theorem dX6_wipe_25 : decode cX6_wipe 25 = .ok (.iload_n 1, 1) := by decide +kernel
theorem dX6_wipe_26 : decode cX6_wipe 26 = .ok (.aaload, 1) := by decide +kernel
theorem dX6_wipe_27 : decode cX6_wipe 27 = .ok (.invokevirtual 73, 3) := by decide +kernel
theorem dX6_wipe_30 : decode cX6_wipe 30 = .ok (.aload_n 0, 1) := by decide +kernel
theorem dX6_wipe_31 : decode cX6_wipe 31 = .ok (.getfield 18, 3) := by decide +kernel
theorem dX6_wipe_34 : decode cX6_wipe 34 = .ok (.invokevirtual 70, 3) := by decide +kernel
theorem dX6_wipe_37 : decode cX6_wipe 37 = .ok (.iload_n 2, 1) := by decide +kernel
theorem dX6_wipe_38 : decode cX6_wipe 38 = .ok (.ireturn, 1) := by decide +kernel
theorem dX6_fault_0 : decode cX6_fault 0 = .ok (.iload_n 1, 1) := by decide +kernel
theorem dX6_fault_1 : decode cX6_fault 1 = .ok (.bipush 6, 2) := by decide +kernel
theorem dX6_fault_3 : decode cX6_fault 3 = .ok (.invokestatic 58, 3) := by decide +kernel
theorem dX6_fault_6 : decode cX6_fault 6 = .ok (.ifCond .eq 15, 3) := by decide +kernel
theorem dX6_fault_9 : decode cX6_fault 9 = .ok (.aload_n 0, 1) := by decide +kernel
theorem dX6_fault_10 : decode cX6_fault 10 = .ok (.getfield 11, 3) := by decide +kernel
theorem dX6_fault_13 : decode cX6_fault 13 = .ok (.iload_n 1, 1) := by decide +kernel
theorem dX6_fault_14 : decode cX6_fault 14 = .ok (.aaload, 1) := by decide +kernel
theorem dX6_fault_15 : decode cX6_fault 15 = .ok (.getfield 76, 3) := by decide +kernel
theorem dX6_fault_18 : decode cX6_fault 18 = .ok (.goto 4, 3) := by decide +kernel
theorem dX6_fault_21 : decode cX6_fault 21 = .ok (.iconst (-1), 1) := by decide +kernel
theorem dX6_fault_22 : decode cX6_fault 22 = .ok (.ireturn, 1) := by decide +kernel
theorem dX6_set_0 : decode cX6_set 0 = .ok (.iload_n 1, 1) := by decide +kernel
theorem dX6_set_1 : decode cX6_set 1 = .ok (.bipush 18, 2) := by decide +kernel
theorem dX6_set_3 : decode cX6_set 3 = .ok (.invokestatic 58, 3) := by decide +kernel
theorem dX6_set_6 : decode cX6_set 6 = .ok (.ifCond .ne 5, 3) := by decide +kernel
theorem dX6_set_9 : decode cX6_set 9 = .ok (.iconst (-1), 1) := by decide +kernel
theorem dX6_set_10 : decode cX6_set 10 = .ok (.ireturn, 1) := by decide +kernel
theorem dX6_set_11 : decode cX6_set 11 = .ok (.iload_n 2, 1) := by decide +kernel
theorem dX6_set_12 : decode cX6_set 12 = .ok (.bipush 100, 2) := by decide +kernel
theorem dX6_set_14 : decode cX6_set 14 = .ok (.invokestatic 58, 3) := by decide +kernel
theorem dX6_set_17 : decode cX6_set 17 = .ok (.ifCond .ne 6, 3) := by decide +kernel
theorem dX6_set_20 : decode cX6_set 20 = .ok (.bipush (-2), 2) := by decide +kernel
theorem dX6_set_22 : decode cX6_set 22 = .ok (.ireturn, 1) := by decide +kernel
theorem dX6_set_23 : decode cX6_set 23 = .ok (.aload_n 0, 1) := by decide +kernel
theorem dX6_set_24 : decode cX6_set 24 = .ok (.getfield 22, 3) := by decide +kernel
theorem dX6_set_27 : decode cX6_set 27 = .ok (.iload_n 1, 1) := by decide +kernel
theorem dX6_set_28 : decode cX6_set 28 = .ok (.iaload, 1) := by decide +kernel
theorem dX6_set_29 : decode cX6_set 29 = .ok (.istore_n 3, 1) := by decide +kernel
theorem dX6_set_30 : decode cX6_set 30 = .ok (.aload_n 0, 1) := by decide +kernel
theorem dX6_set_31 : decode cX6_set 31 = .ok (.getfield 22, 3) := by decide +kernel
theorem dX6_set_34 : decode cX6_set 34 = .ok (.iload_n 1, 1) := by decide +kernel
theorem dX6_set_35 : decode cX6_set 35 = .ok (.iload_n 2, 1) := by decide +kernel
theorem dX6_set_36 : decode cX6_set 36 = .ok (.iastore, 1) := by decide +kernel
theorem dX6_set_37 : decode cX6_set 37 = .ok (.iload_n 3, 1) := by decide +kernel
theorem dX6_set_38 : decode cX6_set 38 = .ok (.ireturn, 1) := by decide +kernel
theorem dX6_get_0 : decode cX6_get 0 = .ok (.iload_n 1, 1) := by decide +kernel
theorem dX6_get_1 : decode cX6_get 1 = .ok (.bipush 18, 2) := by decide +kernel
theorem dX6_get_3 : decode cX6_get 3 = .ok (.invokestatic 58, 3) := by decide +kernel
theorem dX6_get_6 : decode cX6_get 6 = .ok (.ifCond .eq 12, 3) := by decide +kernel
theorem dX6_get_9 : decode cX6_get 9 = .ok (.aload_n 0, 1) := by decide +kernel
theorem dX6_get_10 : decode cX6_get 10 = .ok (.getfield 22, 3) := by decide +kernel
theorem dX6_get_13 : decode cX6_get 13 = .ok (.iload_n 1, 1) := by decide +kernel
theorem dX6_get_14 : decode cX6_get 14 = .ok (.iaload, 1) := by decide +kernel
theorem dX6_get_15 : decode cX6_get 15 = .ok (.goto 4, 3) := by decide +kernel
theorem dX6_get_18 : decode cX6_get 18 = .ok (.iconst (-1), 1) := by decide +kernel
theorem dX6_get_19 : decode cX6_get 19 = .ok (.ireturn, 1) := by decide +kernel
theorem dX6_effect_0 : decode cX6_effect 0 = .ok (.iload_n 1, 1) := by decide +kernel
theorem dX6_effect_1 : decode cX6_effect 1 = .ok (.bipush 6, 2) := by decide +kernel
theorem dX6_effect_3 : decode cX6_effect 3 = .ok (.invokestatic 58, 3) := by decide +kernel
theorem dX6_effect_6 : decode cX6_effect 6 = .ok (.ifCond .ne 5, 3) := by decide +kernel
theorem dX6_effect_9 : decode cX6_effect 9 = .ok (.iconst (-1), 1) := by decide +kernel
theorem dX6_effect_10 : decode cX6_effect 10 = .ok (.ireturn, 1) := by decide +kernel
theorem dX6_effect_11 : decode cX6_effect 11 = .ok (.iload_n 2, 1) := by decide +kernel
theorem dX6_effect_12 : decode cX6_effect 12 = .ok (.bipush 12, 2) := by decide +kernel
theorem dX6_effect_14 : decode cX6_effect 14 = .ok (.invokestatic 58, 3) := by decide +kernel
theorem dX6_effect_17 : decode cX6_effect 17 = .ok (.ifCond .eq 11, 3) := by decide +kernel
theorem dX6_effect_20 : decode cX6_effect 20 = .ok (.iload_n 3, 1) := by decide +kernel
theorem dX6_effect_21 : decode cX6_effect 21 = .ok (.iconst 4, 1) := by decide +kernel
theorem dX6_effect_22 : decode cX6_effect 22 = .ok (.invokestatic 58, 3) := by decide +kernel
theorem dX6_effect_25 : decode cX6_effect 25 = .ok (.ifCond .ne 6, 3) := by decide +kernel
theorem dX6_effect_28 : decode cX6_effect 28 = .ok (.bipush (-2), 2) := by decide +kernel
theorem dX6_effect_30 : decode cX6_effect 30 = .ok (.ireturn, 1) := by decide +kernel
theorem dX6_effect_31 : decode cX6_effect 31 = .ok (.aload_n 0, 1) := by decide +kernel
theorem dX6_effect_32 : decode cX6_effect 32 = .ok (.getfield 18, 3) := by decide +kernel
theorem dX6_effect_35 : decode cX6_effect 35 = .ok (.aload_n 0, 1) := by decide +kernel
theorem dX6_effect_36 : decode cX6_effect 36 = .ok (.getfield 11, 3) := by decide +kernel
theorem dX6_effect_39 : decode cX6_effect 39 = .ok (.invokevirtual 79, 3) := by decide +kernel
theorem dX6_effect_42 : decode cX6_effect 42 = .ok (.aload_n 0, 1) := by decide +kernel
theorem dX6_effect_43 : decode cX6_effect 43 = .ok (.getfield 18, 3) := by decide +kernel
theorem dX6_effect_46 : decode cX6_effect 46 = .ok (.getfield 83, 3) := by decide +kernel
theorem dX6_effect_49 : decode cX6_effect 49 = .ok (.iload_n 1, 1) := by decide +kernel
theorem dX6_effect_50 : decode cX6_effect 50 = .ok (.baload, 1) := by decide +kernel
theorem dX6_effect_51 : decode cX6_effect 51 = .ok (.ifCond .eq 16, 3) := by decide +kernel
theorem dX6_effect_54 : decode cX6_effect 54 = .ok (.aload_n 0, 1) := by decide +kernel
theorem dX6_effect_55 : decode cX6_effect 55 = .ok (.getfield 18, 3) := by decide +kernel
theorem dX6_effect_58 : decode cX6_effect 58 = .ok (.iload_n 1, 1) := by decide +kernel
theorem dX6_effect_59 : decode cX6_effect 59 = .ok (.iload_n 2, 1) := by decide +kernel
theorem dX6_effect_60 : decode cX6_effect 60 = .ok (.iload_n 3, 1) := by decide +kernel
theorem dX6_effect_61 : decode cX6_effect 61 = .ok (.invokevirtual 87, 3) := by decide +kernel
theorem dX6_effect_64 : decode cX6_effect 64 = .ok (.goto 5, 3) := by decide +kernel
theorem dX6_effect_67 : decode cX6_effect 67 = .ok (.bipush (-5), 2) := by decide +kernel
theorem dX6_effect_69 : decode cX6_effect 69 = .ok (.ireturn, 1) := by decide +kernel
theorem dX6_causes_0 : decode cX6_causes 0 = .ok (.iload_n 1, 1) := by decide +kernel
theorem dX6_causes_1 : decode cX6_causes 1 = .ok (.bipush 6, 2) := by decide +kernel
theorem dX6_causes_3 : decode cX6_causes 3 = .ok (.invokestatic 58, 3) := by decide +kernel
theorem dX6_causes_6 : decode cX6_causes 6 = .ok (.ifCond .eq 12, 3) := by decide +kernel
theorem dX6_causes_9 : decode cX6_causes 9 = .ok (.iload_n 3, 1) := by decide +kernel
theorem dX6_causes_10 : decode cX6_causes 10 = .ok (.bipush 6, 2) := by decide +kernel
theorem dX6_causes_12 : decode cX6_causes 12 = .ok (.invokestatic 58, 3) := by decide +kernel
theorem dX6_causes_15 : decode cX6_causes 15 = .ok (.ifCond .ne 5, 3) := by decide +kernel
theorem dX6_causes_18 : decode cX6_causes 18 = .ok (.iconst (-1), 1) := by decide +kernel
theorem dX6_causes_19 : decode cX6_causes 19 = .ok (.ireturn, 1) := by decide +kernel
theorem dX6_causes_20 : decode cX6_causes 20 = .ok (.iload_n 2, 1) := by decide +kernel
theorem dX6_causes_21 : decode cX6_causes 21 = .ok (.bipush 12, 2) := by decide +kernel
theorem dX6_causes_23 : decode cX6_causes 23 = .ok (.invokestatic 58, 3) := by decide +kernel
theorem dX6_causes_26 : decode cX6_causes 26 = .ok (.ifCond .eq 13, 3) := by decide +kernel
theorem dX6_causes_29 : decode cX6_causes 29 = .ok (.iload 4, 2) := by decide +kernel
theorem dX6_causes_31 : decode cX6_causes 31 = .ok (.bipush 12, 2) := by decide +kernel
theorem dX6_causes_33 : decode cX6_causes 33 = .ok (.invokestatic 58, 3) := by decide +kernel
theorem dX6_causes_36 : decode cX6_causes 36 = .ok (.ifCond .ne 6, 3) := by decide +kernel
theorem dX6_causes_39 : decode cX6_causes 39 = .ok (.bipush (-2), 2) := by decide +kernel
theorem dX6_causes_41 : decode cX6_causes 41 = .ok (.ireturn, 1) := by decide +kernel
theorem dX6_causes_42 : decode cX6_causes 42 = .ok (.aload_n 0, 1) := by decide +kernel
theorem dX6_causes_43 : decode cX6_causes 43 = .ok (.getfield 18, 3) := by decide +kernel
theorem dX6_causes_46 : decode cX6_causes 46 = .ok (.aload_n 0, 1) := by decide +kernel
theorem dX6_causes_47 : decode cX6_causes 47 = .ok (.getfield 11, 3) := by decide +kernel
theorem dX6_causes_50 : decode cX6_causes 50 = .ok (.invokevirtual 79, 3) := by decide +kernel
theorem dX6_causes_53 : decode cX6_causes 53 = .ok (.aload_n 0, 1) := by decide +kernel
theorem dX6_causes_54 : decode cX6_causes 54 = .ok (.getfield 18, 3) := by decide +kernel
theorem dX6_causes_57 : decode cX6_causes 57 = .ok (.getfield 83, 3) := by decide +kernel
theorem dX6_causes_60 : decode cX6_causes 60 = .ok (.iload_n 1, 1) := by decide +kernel
theorem dX6_causes_61 : decode cX6_causes 61 = .ok (.baload, 1) := by decide +kernel
theorem dX6_causes_62 : decode cX6_causes 62 = .ok (.ifCond .eq 15, 3) := by decide +kernel
theorem dX6_causes_65 : decode cX6_causes 65 = .ok (.aload_n 0, 1) := by decide +kernel
theorem dX6_causes_66 : decode cX6_causes 66 = .ok (.getfield 18, 3) := by decide +kernel
theorem dX6_causes_69 : decode cX6_causes 69 = .ok (.getfield 83, 3) := by decide +kernel
theorem dX6_causes_72 : decode cX6_causes 72 = .ok (.iload_n 3, 1) := by decide +kernel
theorem dX6_causes_73 : decode cX6_causes 73 = .ok (.baload, 1) := by decide +kernel
theorem dX6_causes_74 : decode cX6_causes 74 = .ok (.ifCond .ne 6, 3) := by decide +kernel
theorem dX6_causes_77 : decode cX6_causes 77 = .ok (.bipush (-5), 2) := by decide +kernel
theorem dX6_causes_79 : decode cX6_causes 79 = .ok (.ireturn, 1) := by decide +kernel
theorem dX6_causes_80 : decode cX6_causes 80 = .ok (.aload_n 0, 1) := by decide +kernel
theorem dX6_causes_81 : decode cX6_causes 81 = .ok (.getfield 18, 3) := by decide +kernel
theorem dX6_causes_84 : decode cX6_causes 84 = .ok (.iload_n 1, 1) := by decide +kernel
theorem dX6_causes_85 : decode cX6_causes 85 = .ok (.iload_n 2, 1) := by decide +kernel
theorem dX6_causes_86 : decode cX6_causes 86 = .ok (.iload_n 3, 1) := by decide +kernel
theorem dX6_causes_87 : decode cX6_causes 87 = .ok (.iload 4, 2) := by decide +kernel
theorem dX6_causes_89 : decode cX6_causes 89 = .ok (.invokevirtual 91, 3) := by decide +kernel
theorem dX6_causes_92 : decode cX6_causes 92 = .ok (.ireturn, 1) := by decide +kernel
theorem dX6_call_0 : decode cX6_call 0 = .ok (.iload_n 1, 1) := by decide +kernel
theorem dX6_call_1 : decode cX6_call 1 = .ok (.bipush 6, 2) := by decide +kernel
theorem dX6_call_3 : decode cX6_call 3 = .ok (.invokestatic 58, 3) := by decide +kernel
theorem dX6_call_6 : decode cX6_call 6 = .ok (.ifCond .ne 5, 3) := by decide +kernel
theorem dX6_call_9 : decode cX6_call 9 = .ok (.iconst (-1), 1) := by decide +kernel
theorem dX6_call_10 : decode cX6_call 10 = .ok (.ireturn, 1) := by decide +kernel
theorem dX6_call_11 : decode cX6_call 11 = .ok (.iload_n 2, 1) := by decide +kernel
theorem dX6_call_12 : decode cX6_call 12 = .ok (.bipush 12, 2) := by decide +kernel
theorem dX6_call_14 : decode cX6_call 14 = .ok (.invokestatic 58, 3) := by decide +kernel
theorem dX6_call_17 : decode cX6_call 17 = .ok (.ifCond .ne 6, 3) := by decide +kernel
theorem dX6_call_20 : decode cX6_call 20 = .ok (.bipush (-2), 2) := by decide +kernel
theorem dX6_call_22 : decode cX6_call 22 = .ok (.ireturn, 1) := by decide +kernel
theorem dX6_call_23 : decode cX6_call 23 = .ok (.aload_n 0, 1) := by decide +kernel
theorem dX6_call_24 : decode cX6_call 24 = .ok (.getfield 29, 3) := by decide +kernel
theorem dX6_call_27 : decode cX6_call 27 = .ok (.getfield 95, 3) := by decide +kernel
theorem dX6_call_30 : decode cX6_call 30 = .ok (.bipush 16, 2) := by decide +kernel
theorem dX6_call_32 : decode cX6_call 32 = .ok (.if_icmp .lt 6, 3) := by decide +kernel
theorem dX6_call_35 : decode cX6_call 35 = .ok (.bipush (-4), 2) := by decide +kernel
theorem dX6_call_37 : decode cX6_call 37 = .ok (.ireturn, 1) := by decide +kernel
theorem dX6_call_38 : decode cX6_call 38 = .ok (.aload_n 0, 1) := by decide +kernel
theorem dX6_call_39 : decode cX6_call 39 = .ok (.getfield 29, 3) := by decide +kernel
theorem dX6_call_42 : decode cX6_call 42 = .ok (.iload_n 1, 1) := by decide +kernel
theorem dX6_call_43 : decode cX6_call 43 = .ok (.iload_n 2, 1) := by decide +kernel
theorem dX6_call_44 : decode cX6_call 44 = .ok (.invokevirtual 98, 3) := by decide +kernel
theorem dX6_call_47 : decode cX6_call 47 = .ok (.aload_n 0, 1) := by decide +kernel
theorem dX6_call_48 : decode cX6_call 48 = .ok (.getfield 29, 3) := by decide +kernel
theorem dX6_call_51 : decode cX6_call 51 = .ok (.getfield 95, 3) := by decide +kernel
theorem dX6_call_54 : decode cX6_call 54 = .ok (.ireturn, 1) := by decide +kernel
theorem dX6_drop_0 : decode cX6_drop 0 = .ok (.iload_n 1, 1) := by decide +kernel
theorem dX6_drop_1 : decode cX6_drop 1 = .ok (.aload_n 0, 1) := by decide +kernel
theorem dX6_drop_2 : decode cX6_drop 2 = .ok (.getfield 29, 3) := by decide +kernel
theorem dX6_drop_5 : decode cX6_drop 5 = .ok (.getfield 95, 3) := by decide +kernel
theorem dX6_drop_8 : decode cX6_drop 8 = .ok (.invokestatic 58, 3) := by decide +kernel
theorem dX6_drop_11 : decode cX6_drop 11 = .ok (.ifCond .ne 5, 3) := by decide +kernel
theorem dX6_drop_14 : decode cX6_drop 14 = .ok (.iconst (-1), 1) := by decide +kernel
theorem dX6_drop_15 : decode cX6_drop 15 = .ok (.ireturn, 1) := by decide +kernel
theorem dX6_drop_16 : decode cX6_drop 16 = .ok (.aload_n 0, 1) := by decide +kernel
theorem dX6_drop_17 : decode cX6_drop 17 = .ok (.getfield 29, 3) := by decide +kernel
theorem dX6_drop_20 : decode cX6_drop 20 = .ok (.iload_n 1, 1) := by decide +kernel
theorem dX6_drop_21 : decode cX6_drop 21 = .ok (.invokevirtual 101, 3) := by decide +kernel
theorem dX6_drop_24 : decode cX6_drop 24 = .ok (.aload_n 0, 1) := by decide +kernel
theorem dX6_drop_25 : decode cX6_drop 25 = .ok (.getfield 29, 3) := by decide +kernel
theorem dX6_drop_28 : decode cX6_drop 28 = .ok (.getfield 95, 3) := by decide +kernel
theorem dX6_drop_31 : decode cX6_drop 31 = .ok (.ireturn, 1) := by decide +kernel
theorem dX6_swap_0 : decode cX6_swap 0 = .ok (.iload_n 1, 1) := by decide +kernel
theorem dX6_swap_1 : decode cX6_swap 1 = .ok (.aload_n 0, 1) := by decide +kernel
theorem dX6_swap_2 : decode cX6_swap 2 = .ok (.getfield 29, 3) := by decide +kernel
theorem dX6_swap_5 : decode cX6_swap 5 = .ok (.getfield 95, 3) := by decide +kernel
theorem dX6_swap_8 : decode cX6_swap 8 = .ok (.iconst 1, 1) := by decide +kernel
theorem dX6_swap_9 : decode cX6_swap 9 = .ok (.isub, 1) := by decide +kernel
theorem dX6_swap_10 : decode cX6_swap 10 = .ok (.invokestatic 58, 3) := by decide +kernel
theorem dX6_swap_13 : decode cX6_swap 13 = .ok (.ifCond .ne 5, 3) := by decide +kernel
theorem dX6_swap_16 : decode cX6_swap 16 = .ok (.iconst (-1), 1) := by decide +kernel
theorem dX6_swap_17 : decode cX6_swap 17 = .ok (.ireturn, 1) := by decide +kernel
theorem dX6_swap_18 : decode cX6_swap 18 = .ok (.aload_n 0, 1) := by decide +kernel
theorem dX6_swap_19 : decode cX6_swap 19 = .ok (.getfield 18, 3) := by decide +kernel
theorem dX6_swap_22 : decode cX6_swap 22 = .ok (.aload_n 0, 1) := by decide +kernel
theorem dX6_swap_23 : decode cX6_swap 23 = .ok (.getfield 11, 3) := by decide +kernel
theorem dX6_swap_26 : decode cX6_swap 26 = .ok (.invokevirtual 79, 3) := by decide +kernel
theorem dX6_swap_29 : decode cX6_swap 29 = .ok (.aload_n 0, 1) := by decide +kernel
theorem dX6_swap_30 : decode cX6_swap 30 = .ok (.getfield 18, 3) := by decide +kernel
theorem dX6_swap_33 : decode cX6_swap 33 = .ok (.getfield 83, 3) := by decide +kernel
theorem dX6_swap_36 : decode cX6_swap 36 = .ok (.aload_n 0, 1) := by decide +kernel
theorem dX6_swap_37 : decode cX6_swap 37 = .ok (.getfield 29, 3) := by decide +kernel
theorem dX6_swap_40 : decode cX6_swap 40 = .ok (.getfield 104, 3) := by decide +kernel
theorem dX6_swap_43 : decode cX6_swap 43 = .ok (.iload_n 1, 1) := by decide +kernel
theorem dX6_swap_44 : decode cX6_swap 44 = .ok (.iaload, 1) := by decide +kernel
theorem dX6_swap_45 : decode cX6_swap 45 = .ok (.baload, 1) := by decide +kernel
theorem dX6_swap_46 : decode cX6_swap 46 = .ok (.ifCond .eq 25, 3) := by decide +kernel
theorem dX6_swap_49 : decode cX6_swap 49 = .ok (.aload_n 0, 1) := by decide +kernel
theorem dX6_swap_50 : decode cX6_swap 50 = .ok (.getfield 18, 3) := by decide +kernel
theorem dX6_swap_53 : decode cX6_swap 53 = .ok (.getfield 83, 3) := by decide +kernel
theorem dX6_swap_56 : decode cX6_swap 56 = .ok (.aload_n 0, 1) := by decide +kernel
theorem dX6_swap_57 : decode cX6_swap 57 = .ok (.getfield 29, 3) := by decide +kernel
theorem dX6_swap_60 : decode cX6_swap 60 = .ok (.getfield 104, 3) := by decide +kernel
theorem dX6_swap_63 : decode cX6_swap 63 = .ok (.iload_n 1, 1) := by decide +kernel
theorem dX6_swap_64 : decode cX6_swap 64 = .ok (.iconst 1, 1) := by decide +kernel
theorem dX6_swap_65 : decode cX6_swap 65 = .ok (.iadd, 1) := by decide +kernel
theorem dX6_swap_66 : decode cX6_swap 66 = .ok (.iaload, 1) := by decide +kernel
theorem dX6_swap_67 : decode cX6_swap 67 = .ok (.baload, 1) := by decide +kernel
theorem dX6_swap_68 : decode cX6_swap 68 = .ok (.ifCond .ne 6, 3) := by decide +kernel
theorem dX6_swap_71 : decode cX6_swap 71 = .ok (.bipush (-5), 2) := by decide +kernel
theorem dX6_swap_73 : decode cX6_swap 73 = .ok (.ireturn, 1) := by decide +kernel
theorem dX6_swap_74 : decode cX6_swap 74 = .ok (.aload_n 0, 1) := by decide +kernel
theorem dX6_swap_75 : decode cX6_swap 75 = .ok (.getfield 18, 3) := by decide +kernel
theorem dX6_swap_78 : decode cX6_swap 78 = .ok (.aload_n 0, 1) := by decide +kernel
theorem dX6_swap_79 : decode cX6_swap 79 = .ok (.getfield 29, 3) := by decide +kernel
theorem dX6_swap_82 : decode cX6_swap 82 = .ok (.iload_n 1, 1) := by decide +kernel
theorem dX6_swap_83 : decode cX6_swap 83 = .ok (.iload_n 1, 1) := by decide +kernel
theorem dX6_swap_84 : decode cX6_swap 84 = .ok (.iconst 1, 1) := by decide +kernel
theorem dX6_swap_85 : decode cX6_swap 85 = .ok (.iadd, 1) := by decide +kernel
theorem dX6_swap_86 : decode cX6_swap 86 = .ok (.invokevirtual 107, 3) := by decide +kernel
theorem dX6_swap_89 : decode cX6_swap 89 = .ok (.ifCond .ne 6, 3) := by decide +kernel
theorem dX6_swap_92 : decode cX6_swap 92 = .ok (.bipush (-3), 2) := by decide +kernel
theorem dX6_swap_94 : decode cX6_swap 94 = .ok (.ireturn, 1) := by decide +kernel
theorem dX6_swap_95 : decode cX6_swap 95 = .ok (.aload_n 0, 1) := by decide +kernel
theorem dX6_swap_96 : decode cX6_swap 96 = .ok (.getfield 29, 3) := by decide +kernel
theorem dX6_swap_99 : decode cX6_swap 99 = .ok (.iload_n 1, 1) := by decide +kernel
theorem dX6_swap_100 : decode cX6_swap 100 = .ok (.invokevirtual 111, 3) := by decide +kernel
theorem dX6_swap_103 : decode cX6_swap 103 = .ok (.iconst 1, 1) := by decide +kernel
theorem dX6_swap_104 : decode cX6_swap 104 = .ok (.ireturn, 1) := by decide +kernel
theorem dX6_told_0 : decode cX6_told 0 = .ok (.iload_n 1, 1) := by decide +kernel
theorem dX6_told_1 : decode cX6_told 1 = .ok (.aload_n 0, 1) := by decide +kernel
theorem dX6_told_2 : decode cX6_told 2 = .ok (.getfield 29, 3) := by decide +kernel
theorem dX6_told_5 : decode cX6_told 5 = .ok (.getfield 95, 3) := by decide +kernel
theorem dX6_told_8 : decode cX6_told 8 = .ok (.invokestatic 58, 3) := by decide +kernel
theorem dX6_told_11 : decode cX6_told 11 = .ok (.ifCond .ne 5, 3) := by decide +kernel
theorem dX6_told_14 : decode cX6_told 14 = .ok (.iconst (-1), 1) := by decide +kernel
theorem dX6_told_15 : decode cX6_told 15 = .ok (.ireturn, 1) := by decide +kernel
theorem dX6_told_16 : decode cX6_told 16 = .ok (.iload_n 2, 1) := by decide +kernel
theorem dX6_told_17 : decode cX6_told 17 = .ok (.iconst 4, 1) := by decide +kernel
theorem dX6_told_18 : decode cX6_told 18 = .ok (.invokestatic 58, 3) := by decide +kernel
theorem dX6_told_21 : decode cX6_told 21 = .ok (.ifCond .ne 6, 3) := by decide +kernel
theorem dX6_told_24 : decode cX6_told 24 = .ok (.bipush (-2), 2) := by decide +kernel
theorem dX6_told_26 : decode cX6_told 26 = .ok (.ireturn, 1) := by decide +kernel
theorem dX6_told_27 : decode cX6_told 27 = .ok (.iload_n 2, 1) := by decide +kernel
theorem dX6_told_28 : decode cX6_told 28 = .ok (.ifCond .ne 13, 3) := by decide +kernel
theorem dX6_told_31 : decode cX6_told 31 = .ok (.aload_n 0, 1) := by decide +kernel
theorem dX6_told_32 : decode cX6_told 32 = .ok (.getfield 29, 3) := by decide +kernel
theorem dX6_told_35 : decode cX6_told 35 = .ok (.getfield 104, 3) := by decide +kernel
theorem dX6_told_38 : decode cX6_told 38 = .ok (.iload_n 1, 1) := by decide +kernel
theorem dX6_told_39 : decode cX6_told 39 = .ok (.iaload, 1) := by decide +kernel
theorem dX6_told_40 : decode cX6_told 40 = .ok (.ireturn, 1) := by decide +kernel
theorem dX6_told_41 : decode cX6_told 41 = .ok (.iload_n 2, 1) := by decide +kernel
theorem dX6_told_42 : decode cX6_told 42 = .ok (.iconst 1, 1) := by decide +kernel
theorem dX6_told_43 : decode cX6_told 43 = .ok (.if_icmp .ne 13, 3) := by decide +kernel
theorem dX6_told_46 : decode cX6_told 46 = .ok (.aload_n 0, 1) := by decide +kernel
theorem dX6_told_47 : decode cX6_told 47 = .ok (.getfield 29, 3) := by decide +kernel
theorem dX6_told_50 : decode cX6_told 50 = .ok (.getfield 114, 3) := by decide +kernel
theorem dX6_told_53 : decode cX6_told 53 = .ok (.iload_n 1, 1) := by decide +kernel
theorem dX6_told_54 : decode cX6_told 54 = .ok (.iaload, 1) := by decide +kernel
theorem dX6_told_55 : decode cX6_told 55 = .ok (.ireturn, 1) := by decide +kernel
theorem dX6_told_56 : decode cX6_told 56 = .ok (.aload_n 0, 1) := by decide +kernel
theorem dX6_told_57 : decode cX6_told 57 = .ok (.invokevirtual 117, 3) := by decide +kernel
theorem dX6_told_60 : decode cX6_told 60 = .ok (.ifCond .ne 6, 3) := by decide +kernel
theorem dX6_told_63 : decode cX6_told 63 = .ok (.bipush (-5), 2) := by decide +kernel
theorem dX6_told_65 : decode cX6_told 65 = .ok (.ireturn, 1) := by decide +kernel
theorem dX6_told_66 : decode cX6_told 66 = .ok (.iload_n 2, 1) := by decide +kernel
theorem dX6_told_67 : decode cX6_told 67 = .ok (.iconst 2, 1) := by decide +kernel
theorem dX6_told_68 : decode cX6_told 68 = .ok (.if_icmp .ne 15, 3) := by decide +kernel
theorem dX6_told_71 : decode cX6_told 71 = .ok (.aload_n 0, 1) := by decide +kernel
theorem dX6_told_72 : decode cX6_told 72 = .ok (.getfield 42, 3) := by decide +kernel
theorem dX6_told_75 : decode cX6_told 75 = .ok (.getfield 121, 3) := by decide +kernel
theorem dX6_told_78 : decode cX6_told 78 = .ok (.iload_n 1, 1) := by decide +kernel
theorem dX6_told_79 : decode cX6_told 79 = .ok (.iaload, 1) := by decide +kernel
theorem dX6_told_80 : decode cX6_told 80 = .ok (.goto 12, 3) := by decide +kernel
theorem dX6_told_83 : decode cX6_told 83 = .ok (.aload_n 0, 1) := by decide +kernel
theorem dX6_told_84 : decode cX6_told 84 = .ok (.getfield 42, 3) := by decide +kernel
theorem dX6_told_87 : decode cX6_told 87 = .ok (.getfield 124, 3) := by decide +kernel
theorem dX6_told_90 : decode cX6_told 90 = .ok (.iload_n 1, 1) := by decide +kernel
theorem dX6_told_91 : decode cX6_told 91 = .ok (.iaload, 1) := by decide +kernel
theorem dX6_told_92 : decode cX6_told 92 = .ok (.ireturn, 1) := by decide +kernel
theorem dX6_stages_0 : decode cX6_stages 0 = .ok (.iload_n 1, 1) := by decide +kernel
theorem dX6_stages_1 : decode cX6_stages 1 = .ok (.ifCond .lt 9, 3) := by decide +kernel
theorem dX6_stages_4 : decode cX6_stages 4 = .ok (.iload_n 1, 1) := by decide +kernel
theorem dX6_stages_5 : decode cX6_stages 5 = .ok (.bipush 6, 2) := by decide +kernel
theorem dX6_stages_7 : decode cX6_stages 7 = .ok (.if_icmp .le 6, 3) := by decide +kernel
theorem dX6_stages_10 : decode cX6_stages 10 = .ok (.bipush (-2), 2) := by decide +kernel
theorem dX6_stages_12 : decode cX6_stages 12 = .ok (.ireturn, 1) := by decide +kernel
theorem dX6_stages_13 : decode cX6_stages 13 = .ok (.iload_n 1, 1) := by decide +kernel
theorem dX6_stages_14 : decode cX6_stages 14 = .ok (.bipush 6, 2) := by decide +kernel
theorem dX6_stages_16 : decode cX6_stages 16 = .ok (.if_icmp .ne 18, 3) := by decide +kernel
theorem dX6_stages_19 : decode cX6_stages 19 = .ok (.aload_n 0, 1) := by decide +kernel
theorem dX6_stages_20 : decode cX6_stages 20 = .ok (.getfield 35, 3) := by decide +kernel
theorem dX6_stages_23 : decode cX6_stages 23 = .ok (.iconst 0, 1) := by decide +kernel
theorem dX6_stages_24 : decode cX6_stages 24 = .ok (.aaload, 1) := by decide +kernel
theorem dX6_stages_25 : decode cX6_stages 25 = .ok (.getfield 127, 3) := by decide +kernel
theorem dX6_stages_28 : decode cX6_stages 28 = .ok (.ifCond .ne 6, 3) := by decide +kernel
theorem dX6_stages_31 : decode cX6_stages 31 = .ok (.bipush (-3), 2) := by decide +kernel
theorem dX6_stages_33 : decode cX6_stages 33 = .ok (.ireturn, 1) := by decide +kernel
theorem dX6_stages_34 : decode cX6_stages 34 = .ok (.aload_n 0, 1) := by decide +kernel
theorem dX6_stages_35 : decode cX6_stages 35 = .ok (.invokevirtual 117, 3) := by decide +kernel
theorem dX6_stages_38 : decode cX6_stages 38 = .ok (.ifCond .ne 6, 3) := by decide +kernel
theorem dX6_stages_41 : decode cX6_stages 41 = .ok (.bipush (-5), 2) := by decide +kernel
theorem dX6_stages_43 : decode cX6_stages 43 = .ok (.ireturn, 1) := by decide +kernel
theorem dX6_stages_44 : decode cX6_stages 44 = .ok (.iload_n 1, 1) := by decide +kernel
theorem dX6_stages_45 : decode cX6_stages 45 = .ok (.tableswitch 105 0 5 #[39, 47, 55, 63, 81, 89], 39) := by decide +kernel
theorem dX6_stages_84 : decode cX6_stages 84 = .ok (.aload_n 0, 1) := by decide +kernel
theorem dX6_stages_85 : decode cX6_stages 85 = .ok (.getfield 42, 3) := by decide +kernel
theorem dX6_stages_88 : decode cX6_stages 88 = .ok (.getfield 131, 3) := by decide +kernel
theorem dX6_stages_91 : decode cX6_stages 91 = .ok (.ireturn, 1) := by decide +kernel
theorem dX6_stages_92 : decode cX6_stages 92 = .ok (.aload_n 0, 1) := by decide +kernel
theorem dX6_stages_93 : decode cX6_stages 93 = .ok (.getfield 42, 3) := by decide +kernel
theorem dX6_stages_96 : decode cX6_stages 96 = .ok (.invokevirtual 134, 3) := by decide +kernel
theorem dX6_stages_99 : decode cX6_stages 99 = .ok (.ireturn, 1) := by decide +kernel
theorem dX6_stages_100 : decode cX6_stages 100 = .ok (.aload_n 0, 1) := by decide +kernel
theorem dX6_stages_101 : decode cX6_stages 101 = .ok (.getfield 42, 3) := by decide +kernel
theorem dX6_stages_104 : decode cX6_stages 104 = .ok (.invokevirtual 138, 3) := by decide +kernel
theorem dX6_stages_107 : decode cX6_stages 107 = .ok (.ireturn, 1) := by decide +kernel
theorem dX6_stages_108 : decode cX6_stages 108 = .ok (.aload_n 0, 1) := by decide +kernel
theorem dX6_stages_109 : decode cX6_stages 109 = .ok (.getfield 29, 3) := by decide +kernel
theorem dX6_stages_112 : decode cX6_stages 112 = .ok (.getfield 95, 3) := by decide +kernel
theorem dX6_stages_115 : decode cX6_stages 115 = .ok (.aload_n 0, 1) := by decide +kernel
theorem dX6_stages_116 : decode cX6_stages 116 = .ok (.getfield 42, 3) := by decide +kernel
theorem dX6_stages_119 : decode cX6_stages 119 = .ok (.getfield 131, 3) := by decide +kernel
theorem dX6_stages_122 : decode cX6_stages 122 = .ok (.invokestatic 141, 3) := by decide +kernel
theorem dX6_stages_125 : decode cX6_stages 125 = .ok (.ireturn, 1) := by decide +kernel
theorem dX6_stages_126 : decode cX6_stages 126 = .ok (.aload_n 0, 1) := by decide +kernel
theorem dX6_stages_127 : decode cX6_stages 127 = .ok (.getfield 42, 3) := by decide +kernel
theorem dX6_stages_130 : decode cX6_stages 130 = .ok (.getfield 145, 3) := by decide +kernel
theorem dX6_stages_133 : decode cX6_stages 133 = .ok (.ireturn, 1) := by decide +kernel
theorem dX6_stages_134 : decode cX6_stages 134 = .ok (.aload_n 0, 1) := by decide +kernel
theorem dX6_stages_135 : decode cX6_stages 135 = .ok (.getfield 42, 3) := by decide +kernel
theorem dX6_stages_138 : decode cX6_stages 138 = .ok (.invokevirtual 148, 3) := by decide +kernel
theorem dX6_stages_141 : decode cX6_stages 141 = .ok (.ifCond .eq 7, 3) := by decide +kernel
theorem dX6_stages_144 : decode cX6_stages 144 = .ok (.iconst 1, 1) := by decide +kernel
theorem dX6_stages_145 : decode cX6_stages 145 = .ok (.goto 4, 3) := by decide +kernel
theorem dX6_stages_148 : decode cX6_stages 148 = .ok (.iconst 0, 1) := by decide +kernel
theorem dX6_stages_149 : decode cX6_stages 149 = .ok (.ireturn, 1) := by decide +kernel
theorem dX6_stages_150 : decode cX6_stages 150 = .ok (.aload_n 0, 1) := by decide +kernel
theorem dX6_stages_151 : decode cX6_stages 151 = .ok (.aload_n 0, 1) := by decide +kernel
theorem dX6_stages_152 : decode cX6_stages 152 = .ok (.getfield 35, 3) := by decide +kernel
theorem dX6_stages_155 : decode cX6_stages 155 = .ok (.iconst 0, 1) := by decide +kernel
theorem dX6_stages_156 : decode cX6_stages 156 = .ok (.aaload, 1) := by decide +kernel
theorem dX6_stages_157 : decode cX6_stages 157 = .ok (.getfield 151, 3) := by decide +kernel
theorem dX6_stages_160 : decode cX6_stages 160 = .ok (.invokevirtual 152, 3) := by decide +kernel
theorem dX6_stages_163 : decode cX6_stages 163 = .ok (.ireturn, 1) := by decide +kernel
theorem dX6_run_0 : decode cX6_run 0 = .ok (.iload_n 1, 1) := by decide +kernel
theorem dX6_run_1 : decode cX6_run 1 = .ok (.ifCond .lt 18, 3) := by decide +kernel
theorem dX6_run_4 : decode cX6_run 4 = .ok (.iload_n 1, 1) := by decide +kernel
theorem dX6_run_5 : decode cX6_run 5 = .ok (.iconst 2, 1) := by decide +kernel
theorem dX6_run_6 : decode cX6_run 6 = .ok (.if_icmp .gt 13, 3) := by decide +kernel
theorem dX6_run_9 : decode cX6_run 9 = .ok (.iload_n 2, 1) := by decide +kernel
theorem dX6_run_10 : decode cX6_run 10 = .ok (.ifCond .lt 9, 3) := by decide +kernel
theorem dX6_run_13 : decode cX6_run 13 = .ok (.iload_n 2, 1) := by decide +kernel
theorem dX6_run_14 : decode cX6_run 14 = .ok (.bipush 19, 2) := by decide +kernel
theorem dX6_run_16 : decode cX6_run 16 = .ok (.if_icmp .le 6, 3) := by decide +kernel
theorem dX6_run_19 : decode cX6_run 19 = .ok (.bipush (-2), 2) := by decide +kernel
theorem dX6_run_21 : decode cX6_run 21 = .ok (.ireturn, 1) := by decide +kernel
theorem dX6_run_22 : decode cX6_run 22 = .ok (.aload_n 0, 1) := by decide +kernel
theorem dX6_run_23 : decode cX6_run 23 = .ok (.iload_n 1, 1) := by decide +kernel
theorem dX6_run_24 : decode cX6_run 24 = .ok (.invokevirtual 156, 3) := by decide +kernel
theorem dX6_run_27 : decode cX6_run 27 = .ok (.ifCond .ne 6, 3) := by decide +kernel
theorem dX6_run_30 : decode cX6_run 30 = .ok (.bipush (-3), 2) := by decide +kernel
theorem dX6_run_32 : decode cX6_run 32 = .ok (.ireturn, 1) := by decide +kernel
theorem dX6_run_33 : decode cX6_run 33 = .ok (.iload_n 2, 1) := by decide +kernel
theorem dX6_run_34 : decode cX6_run 34 = .ok (.bipush 18, 2) := by decide +kernel
theorem dX6_run_36 : decode cX6_run 36 = .ok (.if_icmp .ne 11, 3) := by decide +kernel
theorem dX6_run_39 : decode cX6_run 39 = .ok (.aload_n 0, 1) := by decide +kernel
theorem dX6_run_40 : decode cX6_run 40 = .ok (.getfield 52, 3) := by decide +kernel
theorem dX6_run_43 : decode cX6_run 43 = .ok (.getfield 160, 3) := by decide +kernel
theorem dX6_run_46 : decode cX6_run 46 = .ok (.ireturn, 1) := by decide +kernel
theorem dX6_run_47 : decode cX6_run 47 = .ok (.iload_n 2, 1) := by decide +kernel
theorem dX6_run_48 : decode cX6_run 48 = .ok (.bipush 19, 2) := by decide +kernel
theorem dX6_run_50 : decode cX6_run 50 = .ok (.if_icmp .ne 13, 3) := by decide +kernel
theorem dX6_run_53 : decode cX6_run 53 = .ok (.aload_n 0, 1) := by decide +kernel
theorem dX6_run_54 : decode cX6_run 54 = .ok (.getfield 52, 3) := by decide +kernel
theorem dX6_run_57 : decode cX6_run 57 = .ok (.getfield 163, 3) := by decide +kernel
theorem dX6_run_60 : decode cX6_run 60 = .ok (.goto 12, 3) := by decide +kernel
theorem dX6_run_63 : decode cX6_run 63 = .ok (.aload_n 0, 1) := by decide +kernel
theorem dX6_run_64 : decode cX6_run 64 = .ok (.getfield 52, 3) := by decide +kernel
theorem dX6_run_67 : decode cX6_run 67 = .ok (.getfield 166, 3) := by decide +kernel
theorem dX6_run_70 : decode cX6_run 70 = .ok (.iload_n 2, 1) := by decide +kernel
theorem dX6_run_71 : decode cX6_run 71 = .ok (.iaload, 1) := by decide +kernel
theorem dX6_run_72 : decode cX6_run 72 = .ok (.ireturn, 1) := by decide +kernel
theorem dX6_thrower_0 : decode cX6_thrower 0 = .ok (.iload_n 1, 1) := by decide +kernel
theorem dX6_thrower_1 : decode cX6_thrower 1 = .ok (.ifCond .lt 8, 3) := by decide +kernel
theorem dX6_thrower_4 : decode cX6_thrower 4 = .ok (.iload_n 1, 1) := by decide +kernel
theorem dX6_thrower_5 : decode cX6_thrower 5 = .ok (.iconst 2, 1) := by decide +kernel
theorem dX6_thrower_6 : decode cX6_thrower 6 = .ok (.if_icmp .le 6, 3) := by decide +kernel
theorem dX6_thrower_9 : decode cX6_thrower 9 = .ok (.bipush (-2), 2) := by decide +kernel
theorem dX6_thrower_11 : decode cX6_thrower 11 = .ok (.ireturn, 1) := by decide +kernel
theorem dX6_thrower_12 : decode cX6_thrower 12 = .ok (.aload_n 0, 1) := by decide +kernel
theorem dX6_thrower_13 : decode cX6_thrower 13 = .ok (.iload_n 1, 1) := by decide +kernel
theorem dX6_thrower_14 : decode cX6_thrower 14 = .ok (.invokevirtual 156, 3) := by decide +kernel
theorem dX6_thrower_17 : decode cX6_thrower 17 = .ok (.ifCond .ne 6, 3) := by decide +kernel
theorem dX6_thrower_20 : decode cX6_thrower 20 = .ok (.bipush (-3), 2) := by decide +kernel
theorem dX6_thrower_22 : decode cX6_thrower 22 = .ok (.ireturn, 1) := by decide +kernel
theorem dX6_thrower_23 : decode cX6_thrower 23 = .ok (.iload_n 2, 1) := by decide +kernel
theorem dX6_thrower_24 : decode cX6_thrower 24 = .ok (.aload_n 0, 1) := by decide +kernel
theorem dX6_thrower_25 : decode cX6_thrower 25 = .ok (.getfield 52, 3) := by decide +kernel
theorem dX6_thrower_28 : decode cX6_thrower 28 = .ok (.getfield 160, 3) := by decide +kernel
theorem dX6_thrower_31 : decode cX6_thrower 31 = .ok (.invokestatic 58, 3) := by decide +kernel
theorem dX6_thrower_34 : decode cX6_thrower 34 = .ok (.ifCond .eq 15, 3) := by decide +kernel
theorem dX6_thrower_37 : decode cX6_thrower 37 = .ok (.aload_n 0, 1) := by decide +kernel
theorem dX6_thrower_38 : decode cX6_thrower 38 = .ok (.getfield 52, 3) := by decide +kernel
theorem dX6_thrower_41 : decode cX6_thrower 41 = .ok (.getfield 169, 3) := by decide +kernel
theorem dX6_thrower_44 : decode cX6_thrower 44 = .ok (.iload_n 2, 1) := by decide +kernel
theorem dX6_thrower_45 : decode cX6_thrower 45 = .ok (.iaload, 1) := by decide +kernel
theorem dX6_thrower_46 : decode cX6_thrower 46 = .ok (.goto 5, 3) := by decide +kernel
theorem dX6_thrower_49 : decode cX6_thrower 49 = .ok (.bipush (-6), 2) := by decide +kernel
theorem dX6_thrower_51 : decode cX6_thrower 51 = .ok (.ireturn, 1) := by decide +kernel
theorem dX6_commit_0 : decode cX6_commit 0 = .ok (.aload_n 0, 1) := by decide +kernel
theorem dX6_commit_1 : decode cX6_commit 1 = .ok (.iconst 0, 1) := by decide +kernel
theorem dX6_commit_2 : decode cX6_commit 2 = .ok (.invokevirtual 156, 3) := by decide +kernel
theorem dX6_commit_5 : decode cX6_commit 5 = .ok (.ifCond .ne 6, 3) := by decide +kernel
theorem dX6_commit_8 : decode cX6_commit 8 = .ok (.bipush (-3), 2) := by decide +kernel
theorem dX6_commit_10 : decode cX6_commit 10 = .ok (.ireturn, 1) := by decide +kernel
theorem dX6_commit_11 : decode cX6_commit 11 = .ok (.aload_n 0, 1) := by decide +kernel
theorem dX6_commit_12 : decode cX6_commit 12 = .ok (.getfield 52, 3) := by decide +kernel
theorem dX6_commit_15 : decode cX6_commit 15 = .ok (.getfield 166, 3) := by decide +kernel
theorem dX6_commit_18 : decode cX6_commit 18 = .ok (.iconst 0, 1) := by decide +kernel
theorem dX6_commit_19 : decode cX6_commit 19 = .ok (.aload_n 0, 1) := by decide +kernel
theorem dX6_commit_20 : decode cX6_commit 20 = .ok (.getfield 22, 3) := by decide +kernel
theorem dX6_commit_23 : decode cX6_commit 23 = .ok (.iconst 0, 1) := by decide +kernel
theorem dX6_commit_24 : decode cX6_commit 24 = .ok (.bipush 18, 2) := by decide +kernel
theorem dX6_commit_26 : decode cX6_commit 26 = .ok (.invokestatic 172, 3) := by decide +kernel
theorem dX6_commit_29 : decode cX6_commit 29 = .ok (.aload_n 0, 1) := by decide +kernel
theorem dX6_commit_30 : decode cX6_commit 30 = .ok (.getfield 29, 3) := by decide +kernel
theorem dX6_commit_33 : decode cX6_commit 33 = .ok (.iconst 0, 1) := by decide +kernel
theorem dX6_commit_34 : decode cX6_commit 34 = .ok (.putfield 95, 3) := by decide +kernel
theorem dX6_commit_37 : decode cX6_commit 37 = .ok (.aload_n 0, 1) := by decide +kernel
theorem dX6_commit_38 : decode cX6_commit 38 = .ok (.getfield 52, 3) := by decide +kernel
theorem dX6_commit_41 : decode cX6_commit 41 = .ok (.getfield 160, 3) := by decide +kernel
theorem dX6_commit_44 : decode cX6_commit 44 = .ok (.ireturn, 1) := by decide +kernel
theorem dX6_image_0 : decode cX6_image 0 = .ok (.iload_n 1, 1) := by decide +kernel
theorem dX6_image_1 : decode cX6_image 1 = .ok (.iconst 2, 1) := by decide +kernel
theorem dX6_image_2 : decode cX6_image 2 = .ok (.invokestatic 58, 3) := by decide +kernel
theorem dX6_image_5 : decode cX6_image 5 = .ok (.ifCond .ne 6, 3) := by decide +kernel
theorem dX6_image_8 : decode cX6_image 8 = .ok (.bipush (-2), 2) := by decide +kernel
theorem dX6_image_10 : decode cX6_image 10 = .ok (.ireturn, 1) := by decide +kernel
theorem dX6_image_11 : decode cX6_image 11 = .ok (.aload_n 0, 1) := by decide +kernel
theorem dX6_image_12 : decode cX6_image 12 = .ok (.getfield 35, 3) := by decide +kernel
theorem dX6_image_15 : decode cX6_image 15 = .ok (.iload_n 1, 1) := by decide +kernel
theorem dX6_image_16 : decode cX6_image 16 = .ok (.aaload, 1) := by decide +kernel
theorem dX6_image_17 : decode cX6_image 17 = .ok (.aload_n 0, 1) := by decide +kernel
theorem dX6_image_18 : decode cX6_image 18 = .ok (.getfield 22, 3) := by decide +kernel
theorem dX6_image_21 : decode cX6_image 21 = .ok (.aload_n 0, 1) := by decide +kernel
theorem dX6_image_22 : decode cX6_image 22 = .ok (.getfield 29, 3) := by decide +kernel
theorem dX6_image_25 : decode cX6_image 25 = .ok (.invokevirtual 178, 3) := by decide +kernel
theorem dX6_image_28 : decode cX6_image 28 = .ok (.iconst 1, 1) := by decide +kernel
theorem dX6_image_29 : decode cX6_image 29 = .ok (.ireturn, 1) := by decide +kernel
theorem dX6_restore_0 : decode cX6_restore 0 = .ok (.iload_n 1, 1) := by decide +kernel
theorem dX6_restore_1 : decode cX6_restore 1 = .ok (.iconst 2, 1) := by decide +kernel
theorem dX6_restore_2 : decode cX6_restore 2 = .ok (.invokestatic 58, 3) := by decide +kernel
theorem dX6_restore_5 : decode cX6_restore 5 = .ok (.ifCond .ne 6, 3) := by decide +kernel
theorem dX6_restore_8 : decode cX6_restore 8 = .ok (.bipush (-2), 2) := by decide +kernel
theorem dX6_restore_10 : decode cX6_restore 10 = .ok (.ireturn, 1) := by decide +kernel
theorem dX6_restore_11 : decode cX6_restore 11 = .ok (.aload_n 0, 1) := by decide +kernel
theorem dX6_restore_12 : decode cX6_restore 12 = .ok (.getfield 35, 3) := by decide +kernel
theorem dX6_restore_15 : decode cX6_restore 15 = .ok (.iload_n 1, 1) := by decide +kernel
theorem dX6_restore_16 : decode cX6_restore 16 = .ok (.aaload, 1) := by decide +kernel
theorem dX6_restore_17 : decode cX6_restore 17 = .ok (.getfield 127, 3) := by decide +kernel
theorem dX6_restore_20 : decode cX6_restore 20 = .ok (.ifCond .ne 6, 3) := by decide +kernel
theorem dX6_restore_23 : decode cX6_restore 23 = .ok (.bipush (-3), 2) := by decide +kernel
theorem dX6_restore_25 : decode cX6_restore 25 = .ok (.ireturn, 1) := by decide +kernel
theorem dX6_restore_26 : decode cX6_restore 26 = .ok (.aload_n 0, 1) := by decide +kernel
theorem dX6_restore_27 : decode cX6_restore 27 = .ok (.getfield 35, 3) := by decide +kernel
theorem dX6_restore_30 : decode cX6_restore 30 = .ok (.iload_n 1, 1) := by decide +kernel
theorem dX6_restore_31 : decode cX6_restore 31 = .ok (.aaload, 1) := by decide +kernel
theorem dX6_restore_32 : decode cX6_restore 32 = .ok (.getfield 182, 3) := by decide +kernel
theorem dX6_restore_35 : decode cX6_restore 35 = .ok (.iconst 0, 1) := by decide +kernel
theorem dX6_restore_36 : decode cX6_restore 36 = .ok (.aload_n 0, 1) := by decide +kernel
theorem dX6_restore_37 : decode cX6_restore 37 = .ok (.getfield 22, 3) := by decide +kernel
theorem dX6_restore_40 : decode cX6_restore 40 = .ok (.iconst 0, 1) := by decide +kernel
theorem dX6_restore_41 : decode cX6_restore 41 = .ok (.bipush 18, 2) := by decide +kernel
theorem dX6_restore_43 : decode cX6_restore 43 = .ok (.invokestatic 172, 3) := by decide +kernel
theorem dX6_restore_46 : decode cX6_restore 46 = .ok (.aload_n 0, 1) := by decide +kernel
theorem dX6_restore_47 : decode cX6_restore 47 = .ok (.getfield 29, 3) := by decide +kernel
theorem dX6_restore_50 : decode cX6_restore 50 = .ok (.aload_n 0, 1) := by decide +kernel
theorem dX6_restore_51 : decode cX6_restore 51 = .ok (.getfield 35, 3) := by decide +kernel
theorem dX6_restore_54 : decode cX6_restore 54 = .ok (.iload_n 1, 1) := by decide +kernel
theorem dX6_restore_55 : decode cX6_restore 55 = .ok (.aaload, 1) := by decide +kernel
theorem dX6_restore_56 : decode cX6_restore 56 = .ok (.getfield 151, 3) := by decide +kernel
theorem dX6_restore_59 : decode cX6_restore 59 = .ok (.invokevirtual 183, 3) := by decide +kernel
theorem dX6_restore_62 : decode cX6_restore 62 = .ok (.iconst 1, 1) := by decide +kernel
theorem dX6_restore_63 : decode cX6_restore 63 = .ok (.ireturn, 1) := by decide +kernel
theorem dX6_count_0 : decode cX6_count 0 = .ok (.iload_n 1, 1) := by decide +kernel
theorem dX6_count_1 : decode cX6_count 1 = .ok (.ifCond .ne 11, 3) := by decide +kernel
theorem dX6_count_4 : decode cX6_count 4 = .ok (.aload_n 0, 1) := by decide +kernel
theorem dX6_count_5 : decode cX6_count 5 = .ok (.getfield 29, 3) := by decide +kernel
theorem dX6_count_8 : decode cX6_count 8 = .ok (.getfield 95, 3) := by decide +kernel
theorem dX6_count_11 : decode cX6_count 11 = .ok (.ireturn, 1) := by decide +kernel
theorem dX6_count_12 : decode cX6_count 12 = .ok (.iload_n 1, 1) := by decide +kernel
theorem dX6_count_13 : decode cX6_count 13 = .ok (.bipush 10, 2) := by decide +kernel
theorem dX6_count_15 : decode cX6_count 15 = .ok (.invokestatic 187, 3) := by decide +kernel
theorem dX6_count_18 : decode cX6_count 18 = .ok (.istore_n 2, 1) := by decide +kernel
theorem dX6_count_19 : decode cX6_count 19 = .ok (.iload_n 1, 1) := by decide +kernel
theorem dX6_count_20 : decode cX6_count 20 = .ok (.bipush 10, 2) := by decide +kernel
theorem dX6_count_22 : decode cX6_count 22 = .ok (.if_icmp .lt 15, 3) := by decide +kernel
theorem dX6_count_25 : decode cX6_count 25 = .ok (.iload_n 1, 1) := by decide +kernel
theorem dX6_count_26 : decode cX6_count 26 = .ok (.bipush 40, 2) := by decide +kernel
theorem dX6_count_28 : decode cX6_count 28 = .ok (.if_icmp .ge 9, 3) := by decide +kernel
theorem dX6_count_31 : decode cX6_count 31 = .ok (.iload_n 2, 1) := by decide +kernel
theorem dX6_count_32 : decode cX6_count 32 = .ok (.bipush 6, 2) := by decide +kernel
theorem dX6_count_34 : decode cX6_count 34 = .ok (.if_icmp .lt 6, 3) := by decide +kernel
theorem dX6_count_37 : decode cX6_count 37 = .ok (.bipush (-2), 2) := by decide +kernel
theorem dX6_count_39 : decode cX6_count 39 = .ok (.ireturn, 1) := by decide +kernel
theorem dX6_count_40 : decode cX6_count 40 = .ok (.aload_n 0, 1) := by decide +kernel
theorem dX6_count_41 : decode cX6_count 41 = .ok (.getfield 11, 3) := by decide +kernel
theorem dX6_count_44 : decode cX6_count 44 = .ok (.iload_n 2, 1) := by decide +kernel
theorem dX6_count_45 : decode cX6_count 45 = .ok (.aaload, 1) := by decide +kernel
theorem dX6_count_46 : decode cX6_count 46 = .ok (.astore_n 3, 1) := by decide +kernel
theorem dX6_count_47 : decode cX6_count 47 = .ok (.iload_n 1, 1) := by decide +kernel
theorem dX6_count_48 : decode cX6_count 48 = .ok (.bipush 20, 2) := by decide +kernel
theorem dX6_count_50 : decode cX6_count 50 = .ok (.if_icmp .ge 8, 3) := by decide +kernel
theorem dX6_count_53 : decode cX6_count 53 = .ok (.aload_n 3, 1) := by decide +kernel
theorem dX6_count_54 : decode cX6_count 54 = .ok (.getfield 62, 3) := by decide +kernel
theorem dX6_count_57 : decode cX6_count 57 = .ok (.ireturn, 1) := by decide +kernel
theorem dX6_count_58 : decode cX6_count 58 = .ok (.aload_n 3, 1) := by decide +kernel
theorem dX6_count_59 : decode cX6_count 59 = .ok (.getfield 76, 3) := by decide +kernel
theorem dX6_count_62 : decode cX6_count 62 = .ok (.bipush (-6), 2) := by decide +kernel
theorem dX6_count_64 : decode cX6_count 64 = .ok (.if_icmp .eq 6, 3) := by decide +kernel
theorem dX6_count_67 : decode cX6_count 67 = .ok (.bipush (-6), 2) := by decide +kernel
theorem dX6_count_69 : decode cX6_count 69 = .ok (.ireturn, 1) := by decide +kernel
theorem dX6_count_70 : decode cX6_count 70 = .ok (.iload_n 1, 1) := by decide +kernel
theorem dX6_count_71 : decode cX6_count 71 = .ok (.bipush 30, 2) := by decide +kernel
theorem dX6_count_73 : decode cX6_count 73 = .ok (.if_icmp .ge 10, 3) := by decide +kernel
theorem dX6_count_76 : decode cX6_count 76 = .ok (.aload_n 3, 1) := by decide +kernel
theorem dX6_count_77 : decode cX6_count 77 = .ok (.getfield 192, 3) := by decide +kernel
theorem dX6_count_80 : decode cX6_count 80 = .ok (.goto 7, 3) := by decide +kernel
theorem dX6_count_83 : decode cX6_count 83 = .ok (.aload_n 3, 1) := by decide +kernel
theorem dX6_count_84 : decode cX6_count 84 = .ok (.invokevirtual 195, 3) := by decide +kernel
theorem dX6_count_87 : decode cX6_count 87 = .ok (.ireturn, 1) := by decide +kernel
theorem dX6_within_0 : decode cX6_within 0 = .ok (.iload_n 0, 1) := by decide +kernel
theorem dX6_within_1 : decode cX6_within 1 = .ok (.ifCond .lt 12, 3) := by decide +kernel
theorem dX6_within_4 : decode cX6_within 4 = .ok (.iload_n 0, 1) := by decide +kernel
theorem dX6_within_5 : decode cX6_within 5 = .ok (.iload_n 1, 1) := by decide +kernel
theorem dX6_within_6 : decode cX6_within 6 = .ok (.if_icmp .ge 7, 3) := by decide +kernel
theorem dX6_within_9 : decode cX6_within 9 = .ok (.iconst 1, 1) := by decide +kernel
theorem dX6_within_10 : decode cX6_within 10 = .ok (.goto 4, 3) := by decide +kernel
theorem dX6_within_13 : decode cX6_within 13 = .ok (.iconst 0, 1) := by decide +kernel
theorem dX6_within_14 : decode cX6_within 14 = .ok (.ireturn, 1) := by decide +kernel
theorem dX6_placeOf_0 : decode cX6_placeOf 0 = .ok (.iload_n 0, 1) := by decide +kernel
theorem dX6_placeOf_1 : decode cX6_placeOf 1 = .ok (.bipush 18, 2) := by decide +kernel
theorem dX6_placeOf_3 : decode cX6_placeOf 3 = .ok (.if_icmp .ge 7, 3) := by decide +kernel
theorem dX6_placeOf_6 : decode cX6_placeOf 6 = .ok (.iload_n 0, 1) := by decide +kernel
theorem dX6_placeOf_7 : decode cX6_placeOf 7 = .ok (.goto 15, 3) := by decide +kernel
theorem dX6_placeOf_10 : decode cX6_placeOf 10 = .ok (.bipush 6, 2) := by decide +kernel
theorem dX6_placeOf_12 : decode cX6_placeOf 12 = .ok (.iload_n 0, 1) := by decide +kernel
theorem dX6_placeOf_13 : decode cX6_placeOf 13 = .ok (.bipush 18, 2) := by decide +kernel
theorem dX6_placeOf_15 : decode cX6_placeOf 15 = .ok (.isub, 1) := by decide +kernel
theorem dX6_placeOf_16 : decode cX6_placeOf 16 = .ok (.iload_n 1, 1) := by decide +kernel
theorem dX6_placeOf_17 : decode cX6_placeOf 17 = .ok (.iadd, 1) := by decide +kernel
theorem dX6_placeOf_18 : decode cX6_placeOf 18 = .ok (.bipush 12, 2) := by decide +kernel
theorem dX6_placeOf_20 : decode cX6_placeOf 20 = .ok (.irem, 1) := by decide +kernel
theorem dX6_placeOf_21 : decode cX6_placeOf 21 = .ok (.iadd, 1) := by decide +kernel
theorem dX6_placeOf_22 : decode cX6_placeOf 22 = .ok (.ireturn, 1) := by decide +kernel
theorem dX6_layProgram_0 : decode cX6_layProgram 0 = .ok (.aload_n 0, 1) := by decide +kernel
theorem dX6_layProgram_1 : decode cX6_layProgram 1 = .ok (.getfield 18, 3) := by decide +kernel
theorem dX6_layProgram_4 : decode cX6_layProgram 4 = .ok (.aload_n 0, 1) := by decide +kernel
theorem dX6_layProgram_5 : decode cX6_layProgram 5 = .ok (.getfield 11, 3) := by decide +kernel
theorem dX6_layProgram_8 : decode cX6_layProgram 8 = .ok (.invokevirtual 79, 3) := by decide +kernel
theorem dX6_layProgram_11 : decode cX6_layProgram 11 = .ok (.aload_n 0, 1) := by decide +kernel
theorem dX6_layProgram_12 : decode cX6_layProgram 12 = .ok (.getfield 18, 3) := by decide +kernel
theorem dX6_layProgram_15 : decode cX6_layProgram 15 = .ok (.aload_n 0, 1) := by decide +kernel
theorem dX6_layProgram_16 : decode cX6_layProgram 16 = .ok (.getfield 29, 3) := by decide +kernel
theorem dX6_layProgram_19 : decode cX6_layProgram 19 = .ok (.invokevirtual 198, 3) := by decide +kernel
theorem dX6_layProgram_22 : decode cX6_layProgram 22 = .ok (.ifCond .ne 5, 3) := by decide +kernel
theorem dX6_layProgram_25 : decode cX6_layProgram 25 = .ok (.iconst 0, 1) := by decide +kernel
theorem dX6_layProgram_26 : decode cX6_layProgram 26 = .ok (.ireturn, 1) := by decide +kernel
theorem dX6_layProgram_27 : decode cX6_layProgram 27 = .ok (.aload_n 0, 1) := by decide +kernel
theorem dX6_layProgram_28 : decode cX6_layProgram 28 = .ok (.getfield 42, 3) := by decide +kernel
theorem dX6_layProgram_31 : decode cX6_layProgram 31 = .ok (.aload_n 0, 1) := by decide +kernel
theorem dX6_layProgram_32 : decode cX6_layProgram 32 = .ok (.getfield 29, 3) := by decide +kernel
theorem dX6_layProgram_35 : decode cX6_layProgram 35 = .ok (.aload_n 0, 1) := by decide +kernel
theorem dX6_layProgram_36 : decode cX6_layProgram 36 = .ok (.getfield 18, 3) := by decide +kernel
theorem dX6_layProgram_39 : decode cX6_layProgram 39 = .ok (.invokevirtual 202, 3) := by decide +kernel
theorem dX6_layProgram_42 : decode cX6_layProgram 42 = .ok (.iconst 1, 1) := by decide +kernel
theorem dX6_layProgram_43 : decode cX6_layProgram 43 = .ok (.ireturn, 1) := by decide +kernel
theorem dX6_perform_0 : decode cX6_perform 0 = .ok (.aload_n 0, 1) := by decide +kernel
theorem dX6_perform_1 : decode cX6_perform 1 = .ok (.invokevirtual 117, 3) := by decide +kernel
theorem dX6_perform_4 : decode cX6_perform 4 = .ok (.ifCond .ne 5, 3) := by decide +kernel
theorem dX6_perform_7 : decode cX6_perform 7 = .ok (.iconst 0, 1) := by decide +kernel
theorem dX6_perform_8 : decode cX6_perform 8 = .ok (.ireturn, 1) := by decide +kernel
theorem dX6_perform_9 : decode cX6_perform 9 = .ok (.aload_n 0, 1) := by decide +kernel
theorem dX6_perform_10 : decode cX6_perform 10 = .ok (.getfield 42, 3) := by decide +kernel
theorem dX6_perform_13 : decode cX6_perform 13 = .ok (.iload_n 1, 1) := by decide +kernel
theorem dX6_perform_14 : decode cX6_perform 14 = .ok (.invokevirtual 206, 3) := by decide +kernel
theorem dX6_perform_17 : decode cX6_perform 17 = .ok (.aload_n 0, 1) := by decide +kernel
theorem dX6_perform_18 : decode cX6_perform 18 = .ok (.getfield 52, 3) := by decide +kernel
theorem dX6_perform_21 : decode cX6_perform 21 = .ok (.aload_n 0, 1) := by decide +kernel
theorem dX6_perform_22 : decode cX6_perform 22 = .ok (.getfield 11, 3) := by decide +kernel
theorem dX6_perform_25 : decode cX6_perform 25 = .ok (.aload_n 0, 1) := by decide +kernel
theorem dX6_perform_26 : decode cX6_perform 26 = .ok (.getfield 29, 3) := by decide +kernel
theorem dX6_perform_29 : decode cX6_perform 29 = .ok (.aload_n 0, 1) := by decide +kernel
theorem dX6_perform_30 : decode cX6_perform 30 = .ok (.getfield 42, 3) := by decide +kernel
theorem dX6_perform_33 : decode cX6_perform 33 = .ok (.getfield 209, 3) := by decide +kernel
theorem dX6_perform_36 : decode cX6_perform 36 = .ok (.aload_n 0, 1) := by decide +kernel
theorem dX6_perform_37 : decode cX6_perform 37 = .ok (.getfield 22, 3) := by decide +kernel
theorem dX6_perform_40 : decode cX6_perform 40 = .ok (.invokevirtual 212, 3) := by decide +kernel
theorem dX6_perform_43 : decode cX6_perform 43 = .ok (.ireturn, 1) := by decide +kernel
theorem dX6_compareWithImage_0 : decode cX6_compareWithImage 0 = .ok (.aload_n 0, 1) := by decide +kernel
theorem dX6_compareWithImage_1 : decode cX6_compareWithImage 1 = .ok (.getfield 18, 3) := by decide +kernel
theorem dX6_compareWithImage_4 : decode cX6_compareWithImage 4 = .ok (.aload_n 1, 1) := by decide +kernel
theorem dX6_compareWithImage_5 : decode cX6_compareWithImage 5 = .ok (.invokevirtual 198, 3) := by decide +kernel
theorem dX6_compareWithImage_8 : decode cX6_compareWithImage 8 = .ok (.ifCond .ne 6, 3) := by decide +kernel
theorem dX6_compareWithImage_11 : decode cX6_compareWithImage 11 = .ok (.bipush (-5), 2) := by decide +kernel
theorem dX6_compareWithImage_13 : decode cX6_compareWithImage 13 = .ok (.ireturn, 1) := by decide +kernel
theorem dX6_compareWithImage_14 : decode cX6_compareWithImage 14 = .ok (.aload_n 0, 1) := by decide +kernel
theorem dX6_compareWithImage_15 : decode cX6_compareWithImage 15 = .ok (.getfield 46, 3) := by decide +kernel
theorem dX6_compareWithImage_18 : decode cX6_compareWithImage 18 = .ok (.aload_n 1, 1) := by decide +kernel
theorem dX6_compareWithImage_19 : decode cX6_compareWithImage 19 = .ok (.aload_n 0, 1) := by decide +kernel
theorem dX6_compareWithImage_20 : decode cX6_compareWithImage 20 = .ok (.getfield 18, 3) := by decide +kernel
theorem dX6_compareWithImage_23 : decode cX6_compareWithImage 23 = .ok (.invokevirtual 202, 3) := by decide +kernel
theorem dX6_compareWithImage_26 : decode cX6_compareWithImage 26 = .ok (.aload_n 0, 1) := by decide +kernel
theorem dX6_compareWithImage_27 : decode cX6_compareWithImage 27 = .ok (.getfield 42, 3) := by decide +kernel
theorem dX6_compareWithImage_30 : decode cX6_compareWithImage 30 = .ok (.aload_n 0, 1) := by decide +kernel
theorem dX6_compareWithImage_31 : decode cX6_compareWithImage 31 = .ok (.getfield 46, 3) := by decide +kernel
theorem dX6_compareWithImage_34 : decode cX6_compareWithImage 34 = .ok (.invokevirtual 215, 3) := by decide +kernel
theorem dX6_compareWithImage_37 : decode cX6_compareWithImage 37 = .ok (.ifCond .eq 7, 3) := by decide +kernel
theorem dX6_compareWithImage_40 : decode cX6_compareWithImage 40 = .ok (.iconst 1, 1) := by decide +kernel
theorem dX6_compareWithImage_41 : decode cX6_compareWithImage 41 = .ok (.goto 4, 3) := by decide +kernel
theorem dX6_compareWithImage_44 : decode cX6_compareWithImage 44 = .ok (.iconst 0, 1) := by decide +kernel
theorem dX6_compareWithImage_45 : decode cX6_compareWithImage 45 = .ok (.ireturn, 1) := by decide +kernel
theorem dX6_nearestSingle_0 : decode cX6_nearestSingle 0 = .ok (.iload_n 1, 1) := by decide +kernel
theorem dX6_nearestSingle_1 : decode cX6_nearestSingle 1 = .ok (.iconst 1, 1) := by decide +kernel
theorem dX6_nearestSingle_2 : decode cX6_nearestSingle 2 = .ok (.if_icmp .lt 8, 3) := by decide +kernel
theorem dX6_nearestSingle_5 : decode cX6_nearestSingle 5 = .ok (.iload_n 0, 1) := by decide +kernel
theorem dX6_nearestSingle_6 : decode cX6_nearestSingle 6 = .ok (.iload_n 1, 1) := by decide +kernel
theorem dX6_nearestSingle_7 : decode cX6_nearestSingle 7 = .ok (.if_icmp .ge 5, 3) := by decide +kernel
theorem dX6_nearestSingle_10 : decode cX6_nearestSingle 10 = .ok (.iconst 0, 1) := by decide +kernel
theorem dX6_nearestSingle_11 : decode cX6_nearestSingle 11 = .ok (.ireturn, 1) := by decide +kernel
theorem dX6_nearestSingle_12 : decode cX6_nearestSingle 12 = .ok (.iconst 0, 1) := by decide +kernel
theorem dX6_nearestSingle_13 : decode cX6_nearestSingle 13 = .ok (.istore_n 2, 1) := by decide +kernel
theorem dX6_nearestSingle_14 : decode cX6_nearestSingle 14 = .ok (.iload_n 2, 1) := by decide +kernel
theorem dX6_nearestSingle_15 : decode cX6_nearestSingle 15 = .ok (.iconst 4, 1) := by decide +kernel
theorem dX6_nearestSingle_16 : decode cX6_nearestSingle 16 = .ok (.if_icmp .ge 18, 3) := by decide +kernel
end
section
theorem dX6_nearestSingle_19 : decode cX6_nearestSingle 19 = .ok (.iload_n 0, 1) := by decide +kernel
theorem dX6_nearestSingle_20 : decode cX6_nearestSingle 20 = .ok (.iload_n 1, 1) := by decide +kernel
theorem dX6_nearestSingle_21 : decode cX6_nearestSingle 21 = .ok (.iload_n 2, 1) := by decide +kernel
theorem dX6_nearestSingle_22 : decode cX6_nearestSingle 22 = .ok (.iconst 1, 1) := by decide +kernel
theorem dX6_nearestSingle_23 : decode cX6_nearestSingle 23 = .ok (.iadd, 1) := by decide +kernel
theorem dX6_nearestSingle_24 : decode cX6_nearestSingle 24 = .ok (.ishl, 1) := by decide +kernel
theorem dX6_nearestSingle_25 : decode cX6_nearestSingle 25 = .ok (.if_icmp .lt 9, 3) := by decide +kernel
theorem dX6_nearestSingle_28 : decode cX6_nearestSingle 28 = .ok (.iinc 2 1, 3) := by decide +kernel
theorem dX6_nearestSingle_31 : decode cX6_nearestSingle 31 = .ok (.goto (-17), 3) := by decide +kernel
theorem dX6_nearestSingle_34 : decode cX6_nearestSingle 34 = .ok (.iload_n 0, 1) := by decide +kernel
theorem dX6_nearestSingle_35 : decode cX6_nearestSingle 35 = .ok (.bipush 23, 2) := by decide +kernel
theorem dX6_nearestSingle_37 : decode cX6_nearestSingle 37 = .ok (.iload_n 2, 1) := by decide +kernel
theorem dX6_nearestSingle_38 : decode cX6_nearestSingle 38 = .ok (.isub, 1) := by decide +kernel
theorem dX6_nearestSingle_39 : decode cX6_nearestSingle 39 = .ok (.ishl, 1) := by decide +kernel
theorem dX6_nearestSingle_40 : decode cX6_nearestSingle 40 = .ok (.istore_n 3, 1) := by decide +kernel
theorem dX6_nearestSingle_41 : decode cX6_nearestSingle 41 = .ok (.iload_n 3, 1) := by decide +kernel
theorem dX6_nearestSingle_42 : decode cX6_nearestSingle 42 = .ok (.iload_n 1, 1) := by decide +kernel
theorem dX6_nearestSingle_43 : decode cX6_nearestSingle 43 = .ok (.idiv, 1) := by decide +kernel
theorem dX6_nearestSingle_44 : decode cX6_nearestSingle 44 = .ok (.istore 4, 2) := by decide +kernel
theorem dX6_nearestSingle_46 : decode cX6_nearestSingle 46 = .ok (.iconst 2, 1) := by decide +kernel
theorem dX6_nearestSingle_47 : decode cX6_nearestSingle 47 = .ok (.iload_n 3, 1) := by decide +kernel
theorem dX6_nearestSingle_48 : decode cX6_nearestSingle 48 = .ok (.iload_n 1, 1) := by decide +kernel
theorem dX6_nearestSingle_49 : decode cX6_nearestSingle 49 = .ok (.irem, 1) := by decide +kernel
theorem dX6_nearestSingle_50 : decode cX6_nearestSingle 50 = .ok (.imul, 1) := by decide +kernel
theorem dX6_nearestSingle_51 : decode cX6_nearestSingle 51 = .ok (.istore 5, 2) := by decide +kernel
theorem dX6_nearestSingle_53 : decode cX6_nearestSingle 53 = .ok (.iload 5, 2) := by decide +kernel
theorem dX6_nearestSingle_55 : decode cX6_nearestSingle 55 = .ok (.iload_n 1, 1) := by decide +kernel
theorem dX6_nearestSingle_56 : decode cX6_nearestSingle 56 = .ok (.if_icmp .gt 17, 3) := by decide +kernel
theorem dX6_nearestSingle_59 : decode cX6_nearestSingle 59 = .ok (.iload 5, 2) := by decide +kernel
theorem dX6_nearestSingle_61 : decode cX6_nearestSingle 61 = .ok (.iload_n 1, 1) := by decide +kernel
theorem dX6_nearestSingle_62 : decode cX6_nearestSingle 62 = .ok (.if_icmp .ne 14, 3) := by decide +kernel
theorem dX6_nearestSingle_65 : decode cX6_nearestSingle 65 = .ok (.iload 4, 2) := by decide +kernel
theorem dX6_nearestSingle_67 : decode cX6_nearestSingle 67 = .ok (.iconst 1, 1) := by decide +kernel
theorem dX6_nearestSingle_68 : decode cX6_nearestSingle 68 = .ok (.iand, 1) := by decide +kernel
theorem dX6_nearestSingle_69 : decode cX6_nearestSingle 69 = .ok (.iconst 1, 1) := by decide +kernel
theorem dX6_nearestSingle_70 : decode cX6_nearestSingle 70 = .ok (.if_icmp .ne 6, 3) := by decide +kernel
theorem dX6_nearestSingle_73 : decode cX6_nearestSingle 73 = .ok (.iinc 4 1, 3) := by decide +kernel
theorem dX6_nearestSingle_76 : decode cX6_nearestSingle 76 = .ok (.bipush 126, 2) := by decide +kernel
theorem dX6_nearestSingle_78 : decode cX6_nearestSingle 78 = .ok (.iload_n 2, 1) := by decide +kernel
theorem dX6_nearestSingle_79 : decode cX6_nearestSingle 79 = .ok (.iadd, 1) := by decide +kernel
theorem dX6_nearestSingle_80 : decode cX6_nearestSingle 80 = .ok (.bipush 23, 2) := by decide +kernel
theorem dX6_nearestSingle_82 : decode cX6_nearestSingle 82 = .ok (.ishl, 1) := by decide +kernel
theorem dX6_nearestSingle_83 : decode cX6_nearestSingle 83 = .ok (.iload 4, 2) := by decide +kernel
theorem dX6_nearestSingle_85 : decode cX6_nearestSingle 85 = .ok (.iadd, 1) := by decide +kernel
theorem dX6_nearestSingle_86 : decode cX6_nearestSingle 86 = .ok (.ireturn, 1) := by decide +kernel
theorem dX7_init_0 : decode cX7_init 0 = .ok (.aload_n 0, 1) := by decide +kernel
theorem dX7_init_1 : decode cX7_init 1 = .ok (.invokespecial 1, 3) := by decide +kernel
theorem dX7_init_4 : decode cX7_init 4 = .ok (.aload_n 0, 1) := by decide +kernel
theorem dX7_init_5 : decode cX7_init 5 = .ok (.sipush 180, 3) := by decide +kernel
theorem dX7_init_8 : decode cX7_init 8 = .ok (.newarray .int, 2) := by decide +kernel
theorem dX7_init_10 : decode cX7_init 10 = .ok (.putfield 7, 3) := by decide +kernel
theorem dX7_init_13 : decode cX7_init 13 = .ok (.aload_n 0, 1) := by decide +kernel
theorem dX7_init_14 : decode cX7_init 14 = .ok (.bipush 6, 2) := by decide +kernel
theorem dX7_init_16 : decode cX7_init 16 = .ok (.newarray .int, 2) := by decide +kernel
theorem dX7_init_18 : decode cX7_init 18 = .ok (.putfield 13, 3) := by decide +kernel
theorem dX7_init_21 : decode cX7_init 21 = .ok (.aload_n 0, 1) := by decide +kernel
theorem dX7_init_22 : decode cX7_init 22 = .ok (.bipush 18, 2) := by decide +kernel
theorem dX7_init_24 : decode cX7_init 24 = .ok (.newarray .int, 2) := by decide +kernel
theorem dX7_init_26 : decode cX7_init 26 = .ok (.putfield 16, 3) := by decide +kernel
theorem dX7_init_29 : decode cX7_init 29 = .ok (.aload_n 0, 1) := by decide +kernel
theorem dX7_init_30 : decode cX7_init 30 = .ok (.bipush 16, 2) := by decide +kernel
theorem dX7_init_32 : decode cX7_init 32 = .ok (.newarray .int, 2) := by decide +kernel
theorem dX7_init_34 : decode cX7_init 34 = .ok (.putfield 19, 3) := by decide +kernel
theorem dX7_init_37 : decode cX7_init 37 = .ok (.aload_n 0, 1) := by decide +kernel
theorem dX7_init_38 : decode cX7_init 38 = .ok (.bipush 16, 2) := by decide +kernel
theorem dX7_init_40 : decode cX7_init 40 = .ok (.newarray .int, 2) := by decide +kernel
theorem dX7_init_42 : decode cX7_init 42 = .ok (.putfield 22, 3) := by decide +kernel
theorem dX7_init_45 : decode cX7_init 45 = .ok (.aload_n 0, 1) := by decide +kernel
theorem dX7_init_46 : decode cX7_init 46 = .ok (.bipush 72, 2) := by decide +kernel
theorem dX7_init_48 : decode cX7_init 48 = .ok (.newarray .int, 2) := by decide +kernel
theorem dX7_init_50 : decode cX7_init 50 = .ok (.putfield 25, 3) := by decide +kernel
theorem dX7_init_53 : decode cX7_init 53 = .ok (.aload_n 0, 1) := by decide +kernel
theorem dX7_init_54 : decode cX7_init 54 = .ok (.bipush 72, 2) := by decide +kernel
theorem dX7_init_56 : decode cX7_init 56 = .ok (.newarray .int, 2) := by decide +kernel
theorem dX7_init_58 : decode cX7_init 58 = .ok (.putfield 28, 3) := by decide +kernel
theorem dX7_init_61 : decode cX7_init 61 = .ok (.aload_n 0, 1) := by decide +kernel
theorem dX7_init_62 : decode cX7_init 62 = .ok (.bipush 72, 2) := by decide +kernel
theorem dX7_init_64 : decode cX7_init 64 = .ok (.newarray .int, 2) := by decide +kernel
theorem dX7_init_66 : decode cX7_init 66 = .ok (.putfield 31, 3) := by decide +kernel
theorem dX7_init_69 : decode cX7_init 69 = .ok (.aload_n 0, 1) := by decide +kernel
theorem dX7_init_70 : decode cX7_init 70 = .ok (.bipush 72, 2) := by decide +kernel
theorem dX7_init_72 : decode cX7_init 72 = .ok (.newarray .int, 2) := by decide +kernel
theorem dX7_init_74 : decode cX7_init 74 = .ok (.putfield 34, 3) := by decide +kernel
theorem dX7_init_77 : decode cX7_init 77 = .ok (.aload_n 0, 1) := by decide +kernel
theorem dX7_init_78 : decode cX7_init 78 = .ok (.bipush 6, 2) := by decide +kernel
theorem dX7_init_80 : decode cX7_init 80 = .ok (.newarray .int, 2) := by decide +kernel
theorem dX7_init_82 : decode cX7_init 82 = .ok (.putfield 37, 3) := by decide +kernel
theorem dX7_init_85 : decode cX7_init 85 = .ok (.aload_n 0, 1) := by decide +kernel
theorem dX7_init_86 : decode cX7_init 86 = .ok (.bipush 18, 2) := by decide +kernel
theorem dX7_init_88 : decode cX7_init 88 = .ok (.newarray .int, 2) := by decide +kernel
theorem dX7_init_90 : decode cX7_init 90 = .ok (.putfield 40, 3) := by decide +kernel
theorem dX7_init_93 : decode cX7_init 93 = .ok (.aload_n 0, 1) := by decide +kernel
theorem dX7_init_94 : decode cX7_init 94 = .ok (.bipush 16, 2) := by decide +kernel
theorem dX7_init_96 : decode cX7_init 96 = .ok (.newarray .int, 2) := by decide +kernel
theorem dX7_init_98 : decode cX7_init 98 = .ok (.putfield 43, 3) := by decide +kernel
theorem dX7_init_101 : decode cX7_init 101 = .ok (.aload_n 0, 1) := by decide +kernel
theorem dX7_init_102 : decode cX7_init 102 = .ok (.bipush 16, 2) := by decide +kernel
theorem dX7_init_104 : decode cX7_init 104 = .ok (.newarray .int, 2) := by decide +kernel
theorem dX7_init_106 : decode cX7_init 106 = .ok (.putfield 46, 3) := by decide +kernel
theorem dX7_init_109 : decode cX7_init 109 = .ok (.aload_n 0, 1) := by decide +kernel
theorem dX7_init_110 : decode cX7_init 110 = .ok (.bipush 16, 2) := by decide +kernel
theorem dX7_init_112 : decode cX7_init 112 = .ok (.newarray .int, 2) := by decide +kernel
theorem dX7_init_114 : decode cX7_init 114 = .ok (.putfield 49, 3) := by decide +kernel
theorem dX7_init_117 : decode cX7_init 117 = .ok (.aload_n 0, 1) := by decide +kernel
theorem dX7_init_118 : decode cX7_init 118 = .ok (.bipush 16, 2) := by decide +kernel
theorem dX7_init_120 : decode cX7_init 120 = .ok (.newarray .int, 2) := by decide +kernel
theorem dX7_init_122 : decode cX7_init 122 = .ok (.putfield 52, 3) := by decide +kernel
theorem dX7_init_125 : decode cX7_init 125 = .ok (.aload_n 0, 1) := by decide +kernel
theorem dX7_init_126 : decode cX7_init 126 = .ok (.bipush 16, 2) := by decide +kernel
theorem dX7_init_128 : decode cX7_init 128 = .ok (.newarray .int, 2) := by decide +kernel
theorem dX7_init_130 : decode cX7_init 130 = .ok (.putfield 55, 3) := by decide +kernel
theorem dX7_init_133 : decode cX7_init 133 = .ok (.aload_n 0, 1) := by decide +kernel
theorem dX7_init_134 : decode cX7_init 134 = .ok (.bipush 20, 2) := by decide +kernel
theorem dX7_init_136 : decode cX7_init 136 = .ok (.newarray .int, 2) := by decide +kernel
theorem dX7_init_138 : decode cX7_init 138 = .ok (.putfield 58, 3) := by decide +kernel
theorem dX7_init_141 : decode cX7_init 141 = .ok (.aload_n 0, 1) := by decide +kernel
theorem dX7_init_142 : decode cX7_init 142 = .ok (.bipush 20, 2) := by decide +kernel
theorem dX7_init_144 : decode cX7_init 144 = .ok (.newarray .int, 2) := by decide +kernel
theorem dX7_init_146 : decode cX7_init 146 = .ok (.putfield 61, 3) := by decide +kernel
theorem dX7_init_149 : decode cX7_init 149 = .ok (.aload_n 0, 1) := by decide +kernel
theorem dX7_init_150 : decode cX7_init 150 = .ok (.bipush 20, 2) := by decide +kernel
theorem dX7_init_152 : decode cX7_init 152 = .ok (.newarray .int, 2) := by decide +kernel
theorem dX7_init_154 : decode cX7_init 154 = .ok (.putfield 64, 3) := by decide +kernel
theorem dX7_init_157 : decode cX7_init 157 = .ok (.aload_n 0, 1) := by decide +kernel
theorem dX7_init_158 : decode cX7_init 158 = .ok (.bipush 16, 2) := by decide +kernel
theorem dX7_init_160 : decode cX7_init 160 = .ok (.newarray .int, 2) := by decide +kernel
theorem dX7_init_162 : decode cX7_init 162 = .ok (.putfield 67, 3) := by decide +kernel
theorem dX7_init_165 : decode cX7_init 165 = .ok (.aload_n 0, 1) := by decide +kernel
theorem dX7_init_166 : decode cX7_init 166 = .ok (.bipush 102, 2) := by decide +kernel
theorem dX7_init_168 : decode cX7_init 168 = .ok (.newarray .int, 2) := by decide +kernel
theorem dX7_init_170 : decode cX7_init 170 = .ok (.putfield 70, 3) := by decide +kernel
theorem dX7_init_173 : decode cX7_init 173 = .ok (.aload_n 0, 1) := by decide +kernel
theorem dX7_init_174 : decode cX7_init 174 = .ok (.iconst 2, 1) := by decide +kernel
theorem dX7_init_175 : decode cX7_init 175 = .ok (.newarray .boolean, 2) := by decide +kernel
theorem dX7_init_177 : decode cX7_init 177 = .ok (.putfield 73, 3) := by decide +kernel
theorem dX7_init_180 : decode cX7_init 180 = .ok (.return_, 1) := by decide +kernel
theorem dX7_in_0 : decode cX7_in 0 = .ok (.lload_n 0, 1) := by decide +kernel
theorem dX7_in_1 : decode cX7_in 1 = .ok (.lload_n 2, 1) := by decide +kernel
theorem dX7_in_2 : decode cX7_in 2 = .ok (.lcmp, 1) := by decide +kernel
theorem dX7_in_3 : decode cX7_in 3 = .ok (.ifCond .lt 14, 3) := by decide +kernel
theorem dX7_in_6 : decode cX7_in 6 = .ok (.lload_n 0, 1) := by decide +kernel
theorem dX7_in_7 : decode cX7_in 7 = .ok (.lload 4, 2) := by decide +kernel
theorem dX7_in_9 : decode cX7_in 9 = .ok (.lcmp, 1) := by decide +kernel
theorem dX7_in_10 : decode cX7_in 10 = .ok (.ifCond .gt 7, 3) := by decide +kernel
theorem dX7_in_13 : decode cX7_in 13 = .ok (.iconst 1, 1) := by decide +kernel
theorem dX7_in_14 : decode cX7_in 14 = .ok (.goto 4, 3) := by decide +kernel
theorem dX7_in_17 : decode cX7_in 17 = .ok (.iconst 0, 1) := by decide +kernel
theorem dX7_in_18 : decode cX7_in 18 = .ok (.ireturn, 1) := by decide +kernel
theorem dX7_isRoutine_0 : decode cX7_isRoutine 0 = .ok (.iload_n 0, 1) := by decide +kernel
theorem dX7_isRoutine_1 : decode cX7_isRoutine 1 = .ok (.i2l, 1) := by decide +kernel
theorem dX7_isRoutine_2 : decode cX7_isRoutine 2 = .ok (.lconst 0, 1) := by decide +kernel
theorem dX7_isRoutine_3 : decode cX7_isRoutine 3 = .ok (.ldc2_w 77, 3) := by decide +kernel
theorem dX7_isRoutine_6 : decode cX7_isRoutine 6 = .ok (.invokestatic 79, 3) := by decide +kernel
theorem dX7_isRoutine_9 : decode cX7_isRoutine 9 = .ok (.ireturn, 1) := by decide +kernel
theorem dX7_isGiven_0 : decode cX7_isGiven 0 = .ok (.iload_n 0, 1) := by decide +kernel
theorem dX7_isGiven_1 : decode cX7_isGiven 1 = .ok (.i2l, 1) := by decide +kernel
theorem dX7_isGiven_2 : decode cX7_isGiven 2 = .ok (.lconst 0, 1) := by decide +kernel
theorem dX7_isGiven_3 : decode cX7_isGiven 3 = .ok (.ldc2_w 83, 3) := by decide +kernel
theorem dX7_isGiven_6 : decode cX7_isGiven 6 = .ok (.invokestatic 79, 3) := by decide +kernel
theorem dX7_isGiven_9 : decode cX7_isGiven 9 = .ok (.ireturn, 1) := by decide +kernel
theorem dX7_isPlace_0 : decode cX7_isPlace 0 = .ok (.iload_n 0, 1) := by decide +kernel
theorem dX7_isPlace_1 : decode cX7_isPlace 1 = .ok (.i2l, 1) := by decide +kernel
theorem dX7_isPlace_2 : decode cX7_isPlace 2 = .ok (.lconst 0, 1) := by decide +kernel
theorem dX7_isPlace_3 : decode cX7_isPlace 3 = .ok (.ldc2_w 85, 3) := by decide +kernel
theorem dX7_isPlace_6 : decode cX7_isPlace 6 = .ok (.invokestatic 79, 3) := by decide +kernel
theorem dX7_isPlace_9 : decode cX7_isPlace 9 = .ok (.ireturn, 1) := by decide +kernel
theorem dX7_say_0 : decode cX7_say 0 = .ok (.iload_n 1, 1) := by decide +kernel
theorem dX7_say_1 : decode cX7_say 1 = .ok (.invokestatic 87, 3) := by decide +kernel
theorem dX7_say_4 : decode cX7_say 4 = .ok (.ifCond .ne 5, 3) := by decide +kernel
theorem dX7_say_7 : decode cX7_say 7 = .ok (.iconst (-1), 1) := by decide +kernel
theorem dX7_say_8 : decode cX7_say 8 = .ok (.ireturn, 1) := by decide +kernel
theorem dX7_say_9 : decode cX7_say 9 = .ok (.iload_n 2, 1) := by decide +kernel
theorem dX7_say_10 : decode cX7_say 10 = .ok (.i2l, 1) := by decide +kernel
theorem dX7_say_11 : decode cX7_say 11 = .ok (.ldc2_w 91, 3) := by decide +kernel
theorem dX7_say_14 : decode cX7_say 14 = .ok (.ldc2_w 93, 3) := by decide +kernel
theorem dX7_say_17 : decode cX7_say 17 = .ok (.invokestatic 79, 3) := by decide +kernel
theorem dX7_say_20 : decode cX7_say 20 = .ok (.ifCond .ne 6, 3) := by decide +kernel
theorem dX7_say_23 : decode cX7_say 23 = .ok (.bipush (-2), 2) := by decide +kernel
theorem dX7_say_25 : decode cX7_say 25 = .ok (.ireturn, 1) := by decide +kernel
theorem dX7_say_26 : decode cX7_say 26 = .ok (.aload_n 0, 1) := by decide +kernel
theorem dX7_say_27 : decode cX7_say 27 = .ok (.getfield 13, 3) := by decide +kernel
theorem dX7_say_30 : decode cX7_say 30 = .ok (.iload_n 1, 1) := by decide +kernel
theorem dX7_say_31 : decode cX7_say 31 = .ok (.iaload, 1) := by decide +kernel
theorem dX7_say_32 : decode cX7_say 32 = .ok (.bipush 30, 2) := by decide +kernel
theorem dX7_say_34 : decode cX7_say 34 = .ok (.if_icmp .ne 6, 3) := by decide +kernel
theorem dX7_say_37 : decode cX7_say 37 = .ok (.bipush (-4), 2) := by decide +kernel
theorem dX7_say_39 : decode cX7_say 39 = .ok (.ireturn, 1) := by decide +kernel
theorem dX7_say_40 : decode cX7_say 40 = .ok (.aload_n 0, 1) := by decide +kernel
theorem dX7_say_41 : decode cX7_say 41 = .ok (.getfield 7, 3) := by decide +kernel
theorem dX7_say_44 : decode cX7_say 44 = .ok (.bipush 30, 2) := by decide +kernel
theorem dX7_say_46 : decode cX7_say 46 = .ok (.iload_n 1, 1) := by decide +kernel
theorem dX7_say_47 : decode cX7_say 47 = .ok (.imul, 1) := by decide +kernel
theorem dX7_say_48 : decode cX7_say 48 = .ok (.aload_n 0, 1) := by decide +kernel
theorem dX7_say_49 : decode cX7_say 49 = .ok (.getfield 13, 3) := by decide +kernel
theorem dX7_say_52 : decode cX7_say 52 = .ok (.iload_n 1, 1) := by decide +kernel
theorem dX7_say_53 : decode cX7_say 53 = .ok (.iaload, 1) := by decide +kernel
theorem dX7_say_54 : decode cX7_say 54 = .ok (.iadd, 1) := by decide +kernel
theorem dX7_say_55 : decode cX7_say 55 = .ok (.iload_n 2, 1) := by decide +kernel
theorem dX7_say_56 : decode cX7_say 56 = .ok (.iastore, 1) := by decide +kernel
theorem dX7_say_57 : decode cX7_say 57 = .ok (.aload_n 0, 1) := by decide +kernel
theorem dX7_say_58 : decode cX7_say 58 = .ok (.getfield 13, 3) := by decide +kernel
theorem dX7_say_61 : decode cX7_say 61 = .ok (.iload_n 1, 1) := by decide +kernel
theorem dX7_say_62 : decode cX7_say 62 = .ok (.dup2, 1) := by decide +kernel
theorem dX7_say_63 : decode cX7_say 63 = .ok (.iaload, 1) := by decide +kernel
theorem dX7_say_64 : decode cX7_say 64 = .ok (.iconst 1, 1) := by decide +kernel
theorem dX7_say_65 : decode cX7_say 65 = .ok (.iadd, 1) := by decide +kernel
theorem dX7_say_66 : decode cX7_say 66 = .ok (.iastore, 1) := by decide +kernel
theorem dX7_say_67 : decode cX7_say 67 = .ok (.aload_n 0, 1) := by decide +kernel
theorem dX7_say_68 : decode cX7_say 68 = .ok (.getfield 13, 3) := by decide +kernel
theorem dX7_say_71 : decode cX7_say 71 = .ok (.iload_n 1, 1) := by decide +kernel
theorem dX7_say_72 : decode cX7_say 72 = .ok (.iaload, 1) := by decide +kernel
theorem dX7_say_73 : decode cX7_say 73 = .ok (.ireturn, 1) := by decide +kernel
theorem dX7_wipe_0 : decode cX7_wipe 0 = .ok (.iload_n 1, 1) := by decide +kernel
theorem dX7_wipe_1 : decode cX7_wipe 1 = .ok (.invokestatic 87, 3) := by decide +kernel
theorem dX7_wipe_4 : decode cX7_wipe 4 = .ok (.ifCond .ne 5, 3) := by decide +kernel
theorem dX7_wipe_7 : decode cX7_wipe 7 = .ok (.iconst (-1), 1) := by decide +kernel
theorem dX7_wipe_8 : decode cX7_wipe 8 = .ok (.ireturn, 1) := by decide +kernel
theorem dX7_wipe_9 : decode cX7_wipe 9 = .ok (.aload_n 0, 1) := by decide +kernel
theorem dX7_wipe_10 : decode cX7_wipe 10 = .ok (.getfield 13, 3) := by decide +kernel
theorem dX7_wipe_13 : decode cX7_wipe 13 = .ok (.iload_n 1, 1) := by decide +kernel
theorem dX7_wipe_14 : decode cX7_wipe 14 = .ok (.iaload, 1) := by decide +kernel
theorem dX7_wipe_15 : decode cX7_wipe 15 = .ok (.istore_n 2, 1) := by decide +kernel
theorem dX7_wipe_16 : decode cX7_wipe 16 = .ok (.aload_n 0, 1) := by decide +kernel
theorem dX7_wipe_17 : decode cX7_wipe 17 = .ok (.getfield 13, 3) := by decide +kernel
theorem dX7_wipe_20 : decode cX7_wipe 20 = .ok (.iload_n 1, 1) := by decide +kernel
theorem dX7_wipe_21 : decode cX7_wipe 21 = .ok (.iconst 0, 1) := by decide +kernel
theorem dX7_wipe_22 : decode cX7_wipe 22 = .ok (.iastore, 1) := by decide +kernel
theorem dX7_wipe_23 : decode cX7_wipe 23 = .ok (.iload_n 2, 1) := by decide +kernel
theorem dX7_wipe_24 : decode cX7_wipe 24 = .ok (.ireturn, 1) := by decide +kernel
theorem dX7_here_0 : decode cX7_here 0 = .ok (.aload_n 0, 1) := by decide +kernel
theorem dX7_here_1 : decode cX7_here 1 = .ok (.getfield 95, 3) := by decide +kernel
theorem dX7_here_4 : decode cX7_here 4 = .ok (.aload_n 0, 1) := by decide +kernel
theorem dX7_here_5 : decode cX7_here 5 = .ok (.getfield 13, 3) := by decide +kernel
theorem dX7_here_8 : decode cX7_here 8 = .ok (.aload_n 0, 1) := by decide +kernel
theorem dX7_here_9 : decode cX7_here 9 = .ok (.getfield 99, 3) := by decide +kernel
theorem dX7_here_12 : decode cX7_here 12 = .ok (.iaload, 1) := by decide +kernel
theorem dX7_here_13 : decode cX7_here 13 = .ok (.if_icmp .ge 23, 3) := by decide +kernel
theorem dX7_here_16 : decode cX7_here 16 = .ok (.aload_n 0, 1) := by decide +kernel
theorem dX7_here_17 : decode cX7_here 17 = .ok (.getfield 7, 3) := by decide +kernel
theorem dX7_here_20 : decode cX7_here 20 = .ok (.bipush 30, 2) := by decide +kernel
theorem dX7_here_22 : decode cX7_here 22 = .ok (.aload_n 0, 1) := by decide +kernel
theorem dX7_here_23 : decode cX7_here 23 = .ok (.getfield 99, 3) := by decide +kernel
theorem dX7_here_26 : decode cX7_here 26 = .ok (.imul, 1) := by decide +kernel
theorem dX7_here_27 : decode cX7_here 27 = .ok (.aload_n 0, 1) := by decide +kernel
theorem dX7_here_28 : decode cX7_here 28 = .ok (.getfield 95, 3) := by decide +kernel
theorem dX7_here_31 : decode cX7_here 31 = .ok (.iadd, 1) := by decide +kernel
theorem dX7_here_32 : decode cX7_here 32 = .ok (.iaload, 1) := by decide +kernel
theorem dX7_here_33 : decode cX7_here 33 = .ok (.goto 4, 3) := by decide +kernel
theorem dX7_here_36 : decode cX7_here 36 = .ok (.iconst 0, 1) := by decide +kernel
theorem dX7_here_37 : decode cX7_here 37 = .ok (.ireturn, 1) := by decide +kernel
theorem dX7_isFigure_0 : decode cX7_isFigure 0 = .ok (.iload_n 0, 1) := by decide +kernel
theorem dX7_isFigure_1 : decode cX7_isFigure 1 = .ok (.bipush 48, 2) := by decide +kernel
theorem dX7_isFigure_3 : decode cX7_isFigure 3 = .ok (.if_icmp .lt 13, 3) := by decide +kernel
theorem dX7_isFigure_6 : decode cX7_isFigure 6 = .ok (.iload_n 0, 1) := by decide +kernel
theorem dX7_isFigure_7 : decode cX7_isFigure 7 = .ok (.bipush 57, 2) := by decide +kernel
theorem dX7_isFigure_9 : decode cX7_isFigure 9 = .ok (.if_icmp .gt 7, 3) := by decide +kernel
theorem dX7_isFigure_12 : decode cX7_isFigure 12 = .ok (.iconst 1, 1) := by decide +kernel
theorem dX7_isFigure_13 : decode cX7_isFigure 13 = .ok (.goto 4, 3) := by decide +kernel
theorem dX7_isFigure_16 : decode cX7_isFigure 16 = .ok (.iconst 0, 1) := by decide +kernel
theorem dX7_isFigure_17 : decode cX7_isFigure 17 = .ok (.ireturn, 1) := by decide +kernel
theorem dX7_isLetter_0 : decode cX7_isLetter 0 = .ok (.iload_n 0, 1) := by decide +kernel
theorem dX7_isLetter_1 : decode cX7_isLetter 1 = .ok (.bipush 97, 2) := by decide +kernel
theorem dX7_isLetter_3 : decode cX7_isLetter 3 = .ok (.if_icmp .lt 13, 3) := by decide +kernel
theorem dX7_isLetter_6 : decode cX7_isLetter 6 = .ok (.iload_n 0, 1) := by decide +kernel
theorem dX7_isLetter_7 : decode cX7_isLetter 7 = .ok (.bipush 102, 2) := by decide +kernel
theorem dX7_isLetter_9 : decode cX7_isLetter 9 = .ok (.if_icmp .gt 7, 3) := by decide +kernel
theorem dX7_isLetter_12 : decode cX7_isLetter 12 = .ok (.iconst 1, 1) := by decide +kernel
theorem dX7_isLetter_13 : decode cX7_isLetter 13 = .ok (.goto 4, 3) := by decide +kernel
theorem dX7_isLetter_16 : decode cX7_isLetter 16 = .ok (.iconst 0, 1) := by decide +kernel
theorem dX7_isLetter_17 : decode cX7_isLetter 17 = .ok (.ireturn, 1) := by decide +kernel
theorem dX7_index_0 : decode cX7_index 0 = .ok (.iconst 0, 1) := by decide +kernel
theorem dX7_index_1 : decode cX7_index 1 = .ok (.istore_n 2, 1) := by decide +kernel
theorem dX7_index_2 : decode cX7_index 2 = .ok (.aload_n 0, 1) := by decide +kernel
theorem dX7_index_3 : decode cX7_index 3 = .ok (.invokevirtual 101, 3) := by decide +kernel
theorem dX7_index_6 : decode cX7_index 6 = .ok (.bipush 62, 2) := by decide +kernel
theorem dX7_index_8 : decode cX7_index 8 = .ok (.if_icmp .ne 19, 3) := by decide +kernel
theorem dX7_index_11 : decode cX7_index 11 = .ok (.iinc 2 1, 3) := by decide +kernel
theorem dX7_index_14 : decode cX7_index 14 = .ok (.aload_n 0, 1) := by decide +kernel
theorem dX7_index_15 : decode cX7_index 15 = .ok (.dup, 1) := by decide +kernel
theorem dX7_index_16 : decode cX7_index 16 = .ok (.getfield 95, 3) := by decide +kernel
theorem dX7_index_19 : decode cX7_index 19 = .ok (.iconst 1, 1) := by decide +kernel
theorem dX7_index_20 : decode cX7_index 20 = .ok (.iadd, 1) := by decide +kernel
theorem dX7_index_21 : decode cX7_index 21 = .ok (.putfield 95, 3) := by decide +kernel
theorem dX7_index_24 : decode cX7_index 24 = .ok (.goto (-22), 3) := by decide +kernel
theorem dX7_index_27 : decode cX7_index 27 = .ok (.aload_n 0, 1) := by decide +kernel
theorem dX7_index_28 : decode cX7_index 28 = .ok (.invokevirtual 101, 3) := by decide +kernel
theorem dX7_index_31 : decode cX7_index 31 = .ok (.istore_n 3, 1) := by decide +kernel
theorem dX7_index_32 : decode cX7_index 32 = .ok (.iload_n 3, 1) := by decide +kernel
theorem dX7_index_33 : decode cX7_index 33 = .ok (.invokestatic 105, 3) := by decide +kernel
theorem dX7_index_36 : decode cX7_index 36 = .ok (.ifCond .ne 12, 3) := by decide +kernel
theorem dX7_index_39 : decode cX7_index 39 = .ok (.iload_n 3, 1) := by decide +kernel
theorem dX7_index_40 : decode cX7_index 40 = .ok (.bipush 112, 2) := by decide +kernel
theorem dX7_index_42 : decode cX7_index 42 = .ok (.if_icmp .eq 6, 3) := by decide +kernel
theorem dX7_index_45 : decode cX7_index 45 = .ok (.bipush (-6), 2) := by decide +kernel
theorem dX7_index_47 : decode cX7_index 47 = .ok (.ireturn, 1) := by decide +kernel
theorem dX7_index_48 : decode cX7_index 48 = .ok (.aload_n 0, 1) := by decide +kernel
theorem dX7_index_49 : decode cX7_index 49 = .ok (.dup, 1) := by decide +kernel
theorem dX7_index_50 : decode cX7_index 50 = .ok (.getfield 95, 3) := by decide +kernel
theorem dX7_index_53 : decode cX7_index 53 = .ok (.iconst 1, 1) := by decide +kernel
theorem dX7_index_54 : decode cX7_index 54 = .ok (.iadd, 1) := by decide +kernel
theorem dX7_index_55 : decode cX7_index 55 = .ok (.putfield 95, 3) := by decide +kernel
theorem dX7_index_58 : decode cX7_index 58 = .ok (.iload_n 2, 1) := by decide +kernel
theorem dX7_index_59 : decode cX7_index 59 = .ok (.iload_n 3, 1) := by decide +kernel
theorem dX7_index_60 : decode cX7_index 60 = .ok (.bipush 112, 2) := by decide +kernel
theorem dX7_index_62 : decode cX7_index 62 = .ok (.if_icmp .ne 7, 3) := by decide +kernel
theorem dX7_index_65 : decode cX7_index 65 = .ok (.iload_n 1, 1) := by decide +kernel
theorem dX7_index_66 : decode cX7_index 66 = .ok (.goto 7, 3) := by decide +kernel
theorem dX7_index_69 : decode cX7_index 69 = .ok (.iload_n 3, 1) := by decide +kernel
theorem dX7_index_70 : decode cX7_index 70 = .ok (.bipush 48, 2) := by decide +kernel
theorem dX7_index_72 : decode cX7_index 72 = .ok (.isub, 1) := by decide +kernel
theorem dX7_index_73 : decode cX7_index 73 = .ok (.iadd, 1) := by decide +kernel
theorem dX7_index_74 : decode cX7_index 74 = .ok (.bipush 12, 2) := by decide +kernel
theorem dX7_index_76 : decode cX7_index 76 = .ok (.irem, 1) := by decide +kernel
theorem dX7_index_77 : decode cX7_index 77 = .ok (.ireturn, 1) := by decide +kernel
theorem dX7_leaf_0 : decode cX7_leaf 0 = .ok (.aload_n 0, 1) := by decide +kernel
theorem dX7_leaf_1 : decode cX7_leaf 1 = .ok (.invokevirtual 101, 3) := by decide +kernel
theorem dX7_leaf_4 : decode cX7_leaf 4 = .ok (.istore_n 2, 1) := by decide +kernel
theorem dX7_leaf_5 : decode cX7_leaf 5 = .ok (.iload_n 2, 1) := by decide +kernel
theorem dX7_leaf_6 : decode cX7_leaf 6 = .ok (.bipush 64, 2) := by decide +kernel
theorem dX7_leaf_8 : decode cX7_leaf 8 = .ok (.if_icmp .ne 60, 3) := by decide +kernel
theorem dX7_leaf_11 : decode cX7_leaf 11 = .ok (.aload_n 0, 1) := by decide +kernel
theorem dX7_leaf_12 : decode cX7_leaf 12 = .ok (.dup, 1) := by decide +kernel
theorem dX7_leaf_13 : decode cX7_leaf 13 = .ok (.getfield 95, 3) := by decide +kernel
theorem dX7_leaf_16 : decode cX7_leaf 16 = .ok (.iconst 1, 1) := by decide +kernel
theorem dX7_leaf_17 : decode cX7_leaf 17 = .ok (.iadd, 1) := by decide +kernel
theorem dX7_leaf_18 : decode cX7_leaf 18 = .ok (.putfield 95, 3) := by decide +kernel
theorem dX7_leaf_21 : decode cX7_leaf 21 = .ok (.aload_n 0, 1) := by decide +kernel
theorem dX7_leaf_22 : decode cX7_leaf 22 = .ok (.iload_n 1, 1) := by decide +kernel
theorem dX7_leaf_23 : decode cX7_leaf 23 = .ok (.invokevirtual 108, 3) := by decide +kernel
theorem dX7_leaf_26 : decode cX7_leaf 26 = .ok (.istore_n 3, 1) := by decide +kernel
theorem dX7_leaf_27 : decode cX7_leaf 27 = .ok (.iload_n 3, 1) := by decide +kernel
theorem dX7_leaf_28 : decode cX7_leaf 28 = .ok (.ifCond .ge 5, 3) := by decide +kernel
theorem dX7_leaf_31 : decode cX7_leaf 31 = .ok (.iconst 0, 1) := by decide +kernel
theorem dX7_leaf_32 : decode cX7_leaf 32 = .ok (.ireturn, 1) := by decide +kernel
theorem dX7_leaf_33 : decode cX7_leaf 33 = .ok (.aload_n 0, 1) := by decide +kernel
theorem dX7_leaf_34 : decode cX7_leaf 34 = .ok (.dup, 1) := by decide +kernel
theorem dX7_leaf_35 : decode cX7_leaf 35 = .ok (.getfield 112, 3) := by decide +kernel
theorem dX7_leaf_38 : decode cX7_leaf 38 = .ok (.aload_n 0, 1) := by decide +kernel
theorem dX7_leaf_39 : decode cX7_leaf 39 = .ok (.getfield 40, 3) := by decide +kernel
theorem dX7_leaf_42 : decode cX7_leaf 42 = .ok (.bipush 6, 2) := by decide +kernel
theorem dX7_leaf_44 : decode cX7_leaf 44 = .ok (.iload_n 3, 1) := by decide +kernel
theorem dX7_leaf_45 : decode cX7_leaf 45 = .ok (.iadd, 1) := by decide +kernel
theorem dX7_leaf_46 : decode cX7_leaf 46 = .ok (.iaload, 1) := by decide +kernel
theorem dX7_leaf_47 : decode cX7_leaf 47 = .ok (.iadd, 1) := by decide +kernel
theorem dX7_leaf_48 : decode cX7_leaf 48 = .ok (.putfield 112, 3) := by decide +kernel
theorem dX7_leaf_51 : decode cX7_leaf 51 = .ok (.aload_n 0, 1) := by decide +kernel
theorem dX7_leaf_52 : decode cX7_leaf 52 = .ok (.dup, 1) := by decide +kernel
theorem dX7_leaf_53 : decode cX7_leaf 53 = .ok (.getfield 115, 3) := by decide +kernel
theorem dX7_leaf_56 : decode cX7_leaf 56 = .ok (.iconst 1, 1) := by decide +kernel
theorem dX7_leaf_57 : decode cX7_leaf 57 = .ok (.bipush 6, 2) := by decide +kernel
theorem dX7_leaf_59 : decode cX7_leaf 59 = .ok (.iload_n 3, 1) := by decide +kernel
theorem dX7_leaf_60 : decode cX7_leaf 60 = .ok (.iadd, 1) := by decide +kernel
theorem dX7_leaf_61 : decode cX7_leaf 61 = .ok (.ishl, 1) := by decide +kernel
theorem dX7_leaf_62 : decode cX7_leaf 62 = .ok (.ior, 1) := by decide +kernel
theorem dX7_leaf_63 : decode cX7_leaf 63 = .ok (.putfield 115, 3) := by decide +kernel
theorem dX7_leaf_66 : decode cX7_leaf 66 = .ok (.iconst 1, 1) := by decide +kernel
theorem dX7_leaf_67 : decode cX7_leaf 67 = .ok (.ireturn, 1) := by decide +kernel
theorem dX7_leaf_68 : decode cX7_leaf 68 = .ok (.iload_n 2, 1) := by decide +kernel
theorem dX7_leaf_69 : decode cX7_leaf 69 = .ok (.invokestatic 105, 3) := by decide +kernel
theorem dX7_leaf_72 : decode cX7_leaf 72 = .ok (.ifCond .ne 18, 3) := by decide +kernel
theorem dX7_leaf_75 : decode cX7_leaf 75 = .ok (.iload_n 2, 1) := by decide +kernel
theorem dX7_leaf_76 : decode cX7_leaf 76 = .ok (.invokestatic 118, 3) := by decide +kernel
theorem dX7_leaf_79 : decode cX7_leaf 79 = .ok (.ifCond .ne 11, 3) := by decide +kernel
theorem dX7_leaf_82 : decode cX7_leaf 82 = .ok (.iload_n 2, 1) := by decide +kernel
theorem dX7_leaf_83 : decode cX7_leaf 83 = .ok (.bipush 112, 2) := by decide +kernel
theorem dX7_leaf_85 : decode cX7_leaf 85 = .ok (.if_icmp .eq 5, 3) := by decide +kernel
theorem dX7_leaf_88 : decode cX7_leaf 88 = .ok (.iconst 0, 1) := by decide +kernel
theorem dX7_leaf_89 : decode cX7_leaf 89 = .ok (.ireturn, 1) := by decide +kernel
theorem dX7_leaf_90 : decode cX7_leaf 90 = .ok (.aload_n 0, 1) := by decide +kernel
theorem dX7_leaf_91 : decode cX7_leaf 91 = .ok (.dup, 1) := by decide +kernel
theorem dX7_leaf_92 : decode cX7_leaf 92 = .ok (.getfield 95, 3) := by decide +kernel
theorem dX7_leaf_95 : decode cX7_leaf 95 = .ok (.iconst 1, 1) := by decide +kernel
theorem dX7_leaf_96 : decode cX7_leaf 96 = .ok (.iadd, 1) := by decide +kernel
theorem dX7_leaf_97 : decode cX7_leaf 97 = .ok (.putfield 95, 3) := by decide +kernel
theorem dX7_leaf_100 : decode cX7_leaf 100 = .ok (.aload_n 0, 1) := by decide +kernel
theorem dX7_leaf_101 : decode cX7_leaf 101 = .ok (.dup, 1) := by decide +kernel
theorem dX7_leaf_102 : decode cX7_leaf 102 = .ok (.getfield 112, 3) := by decide +kernel
theorem dX7_leaf_105 : decode cX7_leaf 105 = .ok (.iload_n 2, 1) := by decide +kernel
theorem dX7_leaf_106 : decode cX7_leaf 106 = .ok (.invokestatic 105, 3) := by decide +kernel
theorem dX7_leaf_109 : decode cX7_leaf 109 = .ok (.ifCond .eq 10, 3) := by decide +kernel
theorem dX7_leaf_112 : decode cX7_leaf 112 = .ok (.iload_n 2, 1) := by decide +kernel
theorem dX7_leaf_113 : decode cX7_leaf 113 = .ok (.bipush 48, 2) := by decide +kernel
theorem dX7_leaf_115 : decode cX7_leaf 115 = .ok (.isub, 1) := by decide +kernel
theorem dX7_leaf_116 : decode cX7_leaf 116 = .ok (.goto 22, 3) := by decide +kernel
theorem dX7_leaf_119 : decode cX7_leaf 119 = .ok (.iload_n 2, 1) := by decide +kernel
theorem dX7_leaf_120 : decode cX7_leaf 120 = .ok (.bipush 112, 2) := by decide +kernel
theorem dX7_leaf_122 : decode cX7_leaf 122 = .ok (.if_icmp .ne 7, 3) := by decide +kernel
theorem dX7_leaf_125 : decode cX7_leaf 125 = .ok (.iload_n 1, 1) := by decide +kernel
theorem dX7_leaf_126 : decode cX7_leaf 126 = .ok (.goto 12, 3) := by decide +kernel
theorem dX7_leaf_129 : decode cX7_leaf 129 = .ok (.aload_n 0, 1) := by decide +kernel
theorem dX7_leaf_130 : decode cX7_leaf 130 = .ok (.getfield 40, 3) := by decide +kernel
theorem dX7_leaf_133 : decode cX7_leaf 133 = .ok (.iload_n 2, 1) := by decide +kernel
theorem dX7_leaf_134 : decode cX7_leaf 134 = .ok (.bipush 97, 2) := by decide +kernel
theorem dX7_leaf_136 : decode cX7_leaf 136 = .ok (.isub, 1) := by decide +kernel
theorem dX7_leaf_137 : decode cX7_leaf 137 = .ok (.iaload, 1) := by decide +kernel
theorem dX7_leaf_138 : decode cX7_leaf 138 = .ok (.iadd, 1) := by decide +kernel
theorem dX7_leaf_139 : decode cX7_leaf 139 = .ok (.putfield 112, 3) := by decide +kernel
theorem dX7_leaf_142 : decode cX7_leaf 142 = .ok (.aload_n 0, 1) := by decide +kernel
theorem dX7_leaf_143 : decode cX7_leaf 143 = .ok (.dup, 1) := by decide +kernel
theorem dX7_leaf_144 : decode cX7_leaf 144 = .ok (.getfield 115, 3) := by decide +kernel
theorem dX7_leaf_147 : decode cX7_leaf 147 = .ok (.iload_n 2, 1) := by decide +kernel
theorem dX7_leaf_148 : decode cX7_leaf 148 = .ok (.invokestatic 118, 3) := by decide +kernel
theorem dX7_leaf_151 : decode cX7_leaf 151 = .ok (.ifCond .eq 12, 3) := by decide +kernel
theorem dX7_leaf_154 : decode cX7_leaf 154 = .ok (.iconst 1, 1) := by decide +kernel
theorem dX7_leaf_155 : decode cX7_leaf 155 = .ok (.iload_n 2, 1) := by decide +kernel
theorem dX7_leaf_156 : decode cX7_leaf 156 = .ok (.bipush 97, 2) := by decide +kernel
theorem dX7_leaf_158 : decode cX7_leaf 158 = .ok (.isub, 1) := by decide +kernel
theorem dX7_leaf_159 : decode cX7_leaf 159 = .ok (.ishl, 1) := by decide +kernel
theorem dX7_leaf_160 : decode cX7_leaf 160 = .ok (.goto 4, 3) := by decide +kernel
theorem dX7_leaf_163 : decode cX7_leaf 163 = .ok (.iconst 0, 1) := by decide +kernel
theorem dX7_leaf_164 : decode cX7_leaf 164 = .ok (.ior, 1) := by decide +kernel
theorem dX7_leaf_165 : decode cX7_leaf 165 = .ok (.putfield 115, 3) := by decide +kernel
theorem dX7_leaf_168 : decode cX7_leaf 168 = .ok (.iconst 1, 1) := by decide +kernel
theorem dX7_leaf_169 : decode cX7_leaf 169 = .ok (.ireturn, 1) := by decide +kernel
theorem dX7_term_0 : decode cX7_term 0 = .ok (.aload_n 0, 1) := by decide +kernel
theorem dX7_term_1 : decode cX7_term 1 = .ok (.iconst 0, 1) := by decide +kernel
theorem dX7_term_2 : decode cX7_term 2 = .ok (.putfield 112, 3) := by decide +kernel
theorem dX7_term_5 : decode cX7_term 5 = .ok (.aload_n 0, 1) := by decide +kernel
theorem dX7_term_6 : decode cX7_term 6 = .ok (.iconst 0, 1) := by decide +kernel
theorem dX7_term_7 : decode cX7_term 7 = .ok (.putfield 115, 3) := by decide +kernel
theorem dX7_term_10 : decode cX7_term 10 = .ok (.iconst 1, 1) := by decide +kernel
theorem dX7_term_11 : decode cX7_term 11 = .ok (.istore_n 2, 1) := by decide +kernel
theorem dX7_term_12 : decode cX7_term 12 = .ok (.iload_n 2, 1) := by decide +kernel
theorem dX7_term_13 : decode cX7_term 13 = .ok (.ifCond .le 44, 3) := by decide +kernel
theorem dX7_term_16 : decode cX7_term 16 = .ok (.aload_n 0, 1) := by decide +kernel
theorem dX7_term_17 : decode cX7_term 17 = .ok (.invokevirtual 101, 3) := by decide +kernel
theorem dX7_term_20 : decode cX7_term 20 = .ok (.bipush 126, 2) := by decide +kernel
theorem dX7_term_22 : decode cX7_term 22 = .ok (.if_icmp .ne 19, 3) := by decide +kernel
theorem dX7_term_25 : decode cX7_term 25 = .ok (.aload_n 0, 1) := by decide +kernel
theorem dX7_term_26 : decode cX7_term 26 = .ok (.dup, 1) := by decide +kernel
theorem dX7_term_27 : decode cX7_term 27 = .ok (.getfield 95, 3) := by decide +kernel
theorem dX7_term_30 : decode cX7_term 30 = .ok (.iconst 1, 1) := by decide +kernel
theorem dX7_term_31 : decode cX7_term 31 = .ok (.iadd, 1) := by decide +kernel
theorem dX7_term_32 : decode cX7_term 32 = .ok (.putfield 95, 3) := by decide +kernel
theorem dX7_term_35 : decode cX7_term 35 = .ok (.iinc 2 1, 3) := by decide +kernel
theorem dX7_term_38 : decode cX7_term 38 = .ok (.goto (-26), 3) := by decide +kernel
theorem dX7_term_41 : decode cX7_term 41 = .ok (.aload_n 0, 1) := by decide +kernel
theorem dX7_term_42 : decode cX7_term 42 = .ok (.iload_n 1, 1) := by decide +kernel
theorem dX7_term_43 : decode cX7_term 43 = .ok (.invokevirtual 121, 3) := by decide +kernel
theorem dX7_term_46 : decode cX7_term 46 = .ok (.ifCond .eq 9, 3) := by decide +kernel
theorem dX7_term_49 : decode cX7_term 49 = .ok (.iinc 2 (-1), 3) := by decide +kernel
theorem dX7_term_52 : decode cX7_term 52 = .ok (.goto (-40), 3) := by decide +kernel
theorem dX7_term_55 : decode cX7_term 55 = .ok (.iconst 0, 1) := by decide +kernel
theorem dX7_term_56 : decode cX7_term 56 = .ok (.ireturn, 1) := by decide +kernel
theorem dX7_term_57 : decode cX7_term 57 = .ok (.aload_n 0, 1) := by decide +kernel
theorem dX7_term_58 : decode cX7_term 58 = .ok (.dup, 1) := by decide +kernel
theorem dX7_term_59 : decode cX7_term 59 = .ok (.getfield 112, 3) := by decide +kernel
theorem dX7_term_62 : decode cX7_term 62 = .ok (.bipush 100, 2) := by decide +kernel
theorem dX7_term_64 : decode cX7_term 64 = .ok (.irem, 1) := by decide +kernel
theorem dX7_term_65 : decode cX7_term 65 = .ok (.putfield 112, 3) := by decide +kernel
theorem dX7_term_68 : decode cX7_term 68 = .ok (.iconst 1, 1) := by decide +kernel
theorem dX7_term_69 : decode cX7_term 69 = .ok (.ireturn, 1) := by decide +kernel
theorem dX7_numberHere_0 : decode cX7_numberHere 0 = .ok (.aload_n 0, 1) := by decide +kernel
theorem dX7_numberHere_1 : decode cX7_numberHere 1 = .ok (.aload_n 0, 1) := by decide +kernel
theorem dX7_numberHere_2 : decode cX7_numberHere 2 = .ok (.invokevirtual 101, 3) := by decide +kernel
theorem dX7_numberHere_5 : decode cX7_numberHere 5 = .ok (.bipush 97, 2) := by decide +kernel
theorem dX7_numberHere_7 : decode cX7_numberHere 7 = .ok (.isub, 1) := by decide +kernel
theorem dX7_numberHere_8 : decode cX7_numberHere 8 = .ok (.putfield 124, 3) := by decide +kernel
theorem dX7_numberHere_11 : decode cX7_numberHere 11 = .ok (.aload_n 0, 1) := by decide +kernel
theorem dX7_numberHere_12 : decode cX7_numberHere 12 = .ok (.dup, 1) := by decide +kernel
theorem dX7_numberHere_13 : decode cX7_numberHere 13 = .ok (.getfield 95, 3) := by decide +kernel
theorem dX7_numberHere_16 : decode cX7_numberHere 16 = .ok (.aload_n 0, 1) := by decide +kernel
theorem dX7_numberHere_17 : decode cX7_numberHere 17 = .ok (.invokevirtual 101, 3) := by decide +kernel
theorem dX7_numberHere_20 : decode cX7_numberHere 20 = .ok (.invokestatic 118, 3) := by decide +kernel
theorem dX7_numberHere_23 : decode cX7_numberHere 23 = .ok (.ifCond .eq 7, 3) := by decide +kernel
theorem dX7_numberHere_26 : decode cX7_numberHere 26 = .ok (.iconst 1, 1) := by decide +kernel
theorem dX7_numberHere_27 : decode cX7_numberHere 27 = .ok (.goto 4, 3) := by decide +kernel
theorem dX7_numberHere_30 : decode cX7_numberHere 30 = .ok (.iconst 0, 1) := by decide +kernel
theorem dX7_numberHere_31 : decode cX7_numberHere 31 = .ok (.iadd, 1) := by decide +kernel
theorem dX7_numberHere_32 : decode cX7_numberHere 32 = .ok (.putfield 95, 3) := by decide +kernel
theorem dX7_numberHere_35 : decode cX7_numberHere 35 = .ok (.aload_n 0, 1) := by decide +kernel
theorem dX7_numberHere_36 : decode cX7_numberHere 36 = .ok (.getfield 124, 3) := by decide +kernel
theorem dX7_numberHere_39 : decode cX7_numberHere 39 = .ok (.i2l, 1) := by decide +kernel
theorem dX7_numberHere_40 : decode cX7_numberHere 40 = .ok (.lconst 0, 1) := by decide +kernel
theorem dX7_numberHere_41 : decode cX7_numberHere 41 = .ok (.ldc2_w 77, 3) := by decide +kernel
theorem dX7_numberHere_44 : decode cX7_numberHere 44 = .ok (.invokestatic 79, 3) := by decide +kernel
theorem dX7_numberHere_47 : decode cX7_numberHere 47 = .ok (.ireturn, 1) := by decide +kernel
theorem dX7_cellHere_0 : decode cX7_cellHere 0 = .ok (.aload_n 0, 1) := by decide +kernel
theorem dX7_cellHere_1 : decode cX7_cellHere 1 = .ok (.iload_n 1, 1) := by decide +kernel
theorem dX7_cellHere_2 : decode cX7_cellHere 2 = .ok (.invokevirtual 108, 3) := by decide +kernel
theorem dX7_cellHere_5 : decode cX7_cellHere 5 = .ok (.istore_n 2, 1) := by decide +kernel
theorem dX7_cellHere_6 : decode cX7_cellHere 6 = .ok (.aload_n 0, 1) := by decide +kernel
theorem dX7_cellHere_7 : decode cX7_cellHere 7 = .ok (.bipush 6, 2) := by decide +kernel
theorem dX7_cellHere_9 : decode cX7_cellHere 9 = .ok (.iload_n 2, 1) := by decide +kernel
theorem dX7_cellHere_10 : decode cX7_cellHere 10 = .ok (.iadd, 1) := by decide +kernel
theorem dX7_cellHere_11 : decode cX7_cellHere 11 = .ok (.putfield 124, 3) := by decide +kernel
theorem dX7_cellHere_14 : decode cX7_cellHere 14 = .ok (.iload_n 2, 1) := by decide +kernel
theorem dX7_cellHere_15 : decode cX7_cellHere 15 = .ok (.ifCond .lt 7, 3) := by decide +kernel
theorem dX7_cellHere_18 : decode cX7_cellHere 18 = .ok (.iconst 1, 1) := by decide +kernel
theorem dX7_cellHere_19 : decode cX7_cellHere 19 = .ok (.goto 4, 3) := by decide +kernel
theorem dX7_cellHere_22 : decode cX7_cellHere 22 = .ok (.iconst 0, 1) := by decide +kernel
theorem dX7_cellHere_23 : decode cX7_cellHere 23 = .ok (.ireturn, 1) := by decide +kernel
theorem dX7_callHere_0 : decode cX7_callHere 0 = .ok (.aload_n 0, 1) := by decide +kernel
theorem dX7_callHere_1 : decode cX7_callHere 1 = .ok (.aload_n 0, 1) := by decide +kernel
theorem dX7_callHere_2 : decode cX7_callHere 2 = .ok (.invokevirtual 101, 3) := by decide +kernel
theorem dX7_callHere_5 : decode cX7_callHere 5 = .ok (.bipush 48, 2) := by decide +kernel
theorem dX7_callHere_7 : decode cX7_callHere 7 = .ok (.isub, 1) := by decide +kernel
theorem dX7_callHere_8 : decode cX7_callHere 8 = .ok (.putfield 127, 3) := by decide +kernel
theorem dX7_callHere_11 : decode cX7_callHere 11 = .ok (.aload_n 0, 1) := by decide +kernel
theorem dX7_callHere_12 : decode cX7_callHere 12 = .ok (.getfield 127, 3) := by decide +kernel
theorem dX7_callHere_15 : decode cX7_callHere 15 = .ok (.invokestatic 87, 3) := by decide +kernel
theorem dX7_callHere_18 : decode cX7_callHere 18 = .ok (.ifCond .ne 5, 3) := by decide +kernel
theorem dX7_callHere_21 : decode cX7_callHere 21 = .ok (.iconst 0, 1) := by decide +kernel
theorem dX7_callHere_22 : decode cX7_callHere 22 = .ok (.ireturn, 1) := by decide +kernel
theorem dX7_callHere_23 : decode cX7_callHere 23 = .ok (.aload_n 0, 1) := by decide +kernel
theorem dX7_callHere_24 : decode cX7_callHere 24 = .ok (.dup, 1) := by decide +kernel
theorem dX7_callHere_25 : decode cX7_callHere 25 = .ok (.getfield 95, 3) := by decide +kernel
theorem dX7_callHere_28 : decode cX7_callHere 28 = .ok (.iconst 1, 1) := by decide +kernel
theorem dX7_callHere_29 : decode cX7_callHere 29 = .ok (.iadd, 1) := by decide +kernel
theorem dX7_callHere_30 : decode cX7_callHere 30 = .ok (.putfield 95, 3) := by decide +kernel
theorem dX7_callHere_33 : decode cX7_callHere 33 = .ok (.aload_n 0, 1) := by decide +kernel
theorem dX7_callHere_34 : decode cX7_callHere 34 = .ok (.aload_n 0, 1) := by decide +kernel
theorem dX7_callHere_35 : decode cX7_callHere 35 = .ok (.iload_n 1, 1) := by decide +kernel
theorem dX7_callHere_36 : decode cX7_callHere 36 = .ok (.invokevirtual 108, 3) := by decide +kernel
theorem dX7_callHere_39 : decode cX7_callHere 39 = .ok (.putfield 130, 3) := by decide +kernel
theorem dX7_callHere_42 : decode cX7_callHere 42 = .ok (.aload_n 0, 1) := by decide +kernel
theorem dX7_callHere_43 : decode cX7_callHere 43 = .ok (.getfield 130, 3) := by decide +kernel
theorem dX7_callHere_46 : decode cX7_callHere 46 = .ok (.ifCond .lt 7, 3) := by decide +kernel
theorem dX7_callHere_49 : decode cX7_callHere 49 = .ok (.iconst 1, 1) := by decide +kernel
theorem dX7_callHere_50 : decode cX7_callHere 50 = .ok (.goto 4, 3) := by decide +kernel
theorem dX7_callHere_53 : decode cX7_callHere 53 = .ok (.iconst 0, 1) := by decide +kernel
theorem dX7_callHere_54 : decode cX7_callHere 54 = .ok (.ireturn, 1) := by decide +kernel
theorem dX7_statement_0 : decode cX7_statement 0 = .ok (.aload_n 0, 1) := by decide +kernel
theorem dX7_statement_1 : decode cX7_statement 1 = .ok (.aload_n 0, 1) := by decide +kernel
theorem dX7_statement_2 : decode cX7_statement 2 = .ok (.invokevirtual 101, 3) := by decide +kernel
theorem dX7_statement_5 : decode cX7_statement 5 = .ok (.putfield 133, 3) := by decide +kernel
theorem dX7_statement_8 : decode cX7_statement 8 = .ok (.aload_n 0, 1) := by decide +kernel
theorem dX7_statement_9 : decode cX7_statement 9 = .ok (.getfield 133, 3) := by decide +kernel
theorem dX7_statement_12 : decode cX7_statement 12 = .ok (.bipush 61, 2) := by decide +kernel
theorem dX7_statement_14 : decode cX7_statement 14 = .ok (.if_icmp .eq 12, 3) := by decide +kernel
theorem dX7_statement_17 : decode cX7_statement 17 = .ok (.aload_n 0, 1) := by decide +kernel
theorem dX7_statement_18 : decode cX7_statement 18 = .ok (.getfield 133, 3) := by decide +kernel
theorem dX7_statement_21 : decode cX7_statement 21 = .ok (.bipush 43, 2) := by decide +kernel
theorem dX7_statement_23 : decode cX7_statement 23 = .ok (.if_icmp .ne 7, 3) := by decide +kernel
theorem dX7_statement_26 : decode cX7_statement 26 = .ok (.iconst 1, 1) := by decide +kernel
theorem dX7_statement_27 : decode cX7_statement 27 = .ok (.goto 4, 3) := by decide +kernel
theorem dX7_statement_30 : decode cX7_statement 30 = .ok (.iconst 0, 1) := by decide +kernel
theorem dX7_statement_31 : decode cX7_statement 31 = .ok (.istore_n 2, 1) := by decide +kernel
theorem dX7_statement_32 : decode cX7_statement 32 = .ok (.aload_n 0, 1) := by decide +kernel
theorem dX7_statement_33 : decode cX7_statement 33 = .ok (.getfield 133, 3) := by decide +kernel
theorem dX7_statement_36 : decode cX7_statement 36 = .ok (.bipush 35, 2) := by decide +kernel
theorem dX7_statement_38 : decode cX7_statement 38 = .ok (.if_icmp .eq 12, 3) := by decide +kernel
theorem dX7_statement_41 : decode cX7_statement 41 = .ok (.aload_n 0, 1) := by decide +kernel
theorem dX7_statement_42 : decode cX7_statement 42 = .ok (.getfield 133, 3) := by decide +kernel
theorem dX7_statement_45 : decode cX7_statement 45 = .ok (.bipush 94, 2) := by decide +kernel
theorem dX7_statement_47 : decode cX7_statement 47 = .ok (.if_icmp .ne 7, 3) := by decide +kernel
theorem dX7_statement_50 : decode cX7_statement 50 = .ok (.iconst 1, 1) := by decide +kernel
theorem dX7_statement_51 : decode cX7_statement 51 = .ok (.goto 4, 3) := by decide +kernel
theorem dX7_statement_54 : decode cX7_statement 54 = .ok (.iconst 0, 1) := by decide +kernel
theorem dX7_statement_55 : decode cX7_statement 55 = .ok (.istore_n 3, 1) := by decide +kernel
theorem dX7_statement_56 : decode cX7_statement 56 = .ok (.iload_n 2, 1) := by decide +kernel
theorem dX7_statement_57 : decode cX7_statement 57 = .ok (.ifCond .ne 27, 3) := by decide +kernel
theorem dX7_statement_60 : decode cX7_statement 60 = .ok (.iload_n 3, 1) := by decide +kernel
theorem dX7_statement_61 : decode cX7_statement 61 = .ok (.ifCond .ne 23, 3) := by decide +kernel
theorem dX7_statement_64 : decode cX7_statement 64 = .ok (.aload_n 0, 1) := by decide +kernel
theorem dX7_statement_65 : decode cX7_statement 65 = .ok (.getfield 133, 3) := by decide +kernel
theorem dX7_statement_68 : decode cX7_statement 68 = .ok (.bipush 63, 2) := by decide +kernel
theorem dX7_statement_70 : decode cX7_statement 70 = .ok (.if_icmp .eq 14, 3) := by decide +kernel
theorem dX7_statement_73 : decode cX7_statement 73 = .ok (.aload_n 0, 1) := by decide +kernel
theorem dX7_statement_74 : decode cX7_statement 74 = .ok (.getfield 133, 3) := by decide +kernel
theorem dX7_statement_77 : decode cX7_statement 77 = .ok (.bipush 99, 2) := by decide +kernel
theorem dX7_statement_79 : decode cX7_statement 79 = .ok (.if_icmp .eq 5, 3) := by decide +kernel
theorem dX7_statement_82 : decode cX7_statement 82 = .ok (.iconst 0, 1) := by decide +kernel
theorem dX7_statement_83 : decode cX7_statement 83 = .ok (.ireturn, 1) := by decide +kernel
theorem dX7_statement_84 : decode cX7_statement 84 = .ok (.aload_n 0, 1) := by decide +kernel
theorem dX7_statement_85 : decode cX7_statement 85 = .ok (.dup, 1) := by decide +kernel
theorem dX7_statement_86 : decode cX7_statement 86 = .ok (.getfield 95, 3) := by decide +kernel
theorem dX7_statement_89 : decode cX7_statement 89 = .ok (.iconst 1, 1) := by decide +kernel
theorem dX7_statement_90 : decode cX7_statement 90 = .ok (.iadd, 1) := by decide +kernel
theorem dX7_statement_91 : decode cX7_statement 91 = .ok (.putfield 95, 3) := by decide +kernel
theorem dX7_statement_94 : decode cX7_statement 94 = .ok (.aload_n 0, 1) := by decide +kernel
theorem dX7_statement_95 : decode cX7_statement 95 = .ok (.getfield 133, 3) := by decide +kernel
theorem dX7_statement_98 : decode cX7_statement 98 = .ok (.bipush 99, 2) := by decide +kernel
theorem dX7_statement_100 : decode cX7_statement 100 = .ok (.if_icmp .ne 9, 3) := by decide +kernel
theorem dX7_statement_103 : decode cX7_statement 103 = .ok (.aload_n 0, 1) := by decide +kernel
theorem dX7_statement_104 : decode cX7_statement 104 = .ok (.iload_n 1, 1) := by decide +kernel
theorem dX7_statement_105 : decode cX7_statement 105 = .ok (.invokevirtual 136, 3) := by decide +kernel
theorem dX7_statement_108 : decode cX7_statement 108 = .ok (.ireturn, 1) := by decide +kernel
theorem dX7_statement_109 : decode cX7_statement 109 = .ok (.aload_n 0, 1) := by decide +kernel
theorem dX7_statement_110 : decode cX7_statement 110 = .ok (.getfield 133, 3) := by decide +kernel
theorem dX7_statement_113 : decode cX7_statement 113 = .ok (.bipush 63, 2) := by decide +kernel
theorem dX7_statement_115 : decode cX7_statement 115 = .ok (.if_icmp .ne 8, 3) := by decide +kernel
theorem dX7_statement_118 : decode cX7_statement 118 = .ok (.aload_n 0, 1) := by decide +kernel
theorem dX7_statement_119 : decode cX7_statement 119 = .ok (.invokevirtual 139, 3) := by decide +kernel
theorem dX7_statement_122 : decode cX7_statement 122 = .ok (.ireturn, 1) := by decide +kernel
theorem dX7_statement_123 : decode cX7_statement 123 = .ok (.iload_n 2, 1) := by decide +kernel
theorem dX7_statement_124 : decode cX7_statement 124 = .ok (.ifCond .eq 13, 3) := by decide +kernel
theorem dX7_statement_127 : decode cX7_statement 127 = .ok (.aload_n 0, 1) := by decide +kernel
theorem dX7_statement_128 : decode cX7_statement 128 = .ok (.invokevirtual 139, 3) := by decide +kernel
theorem dX7_statement_131 : decode cX7_statement 131 = .ok (.ifCond .eq 26, 3) := by decide +kernel
theorem dX7_statement_134 : decode cX7_statement 134 = .ok (.goto 11, 3) := by decide +kernel
theorem dX7_statement_137 : decode cX7_statement 137 = .ok (.aload_n 0, 1) := by decide +kernel
theorem dX7_statement_138 : decode cX7_statement 138 = .ok (.iload_n 1, 1) := by decide +kernel
theorem dX7_statement_139 : decode cX7_statement 139 = .ok (.invokevirtual 143, 3) := by decide +kernel
theorem dX7_statement_142 : decode cX7_statement 142 = .ok (.ifCond .eq 15, 3) := by decide +kernel
theorem dX7_statement_145 : decode cX7_statement 145 = .ok (.aload_n 0, 1) := by decide +kernel
theorem dX7_statement_146 : decode cX7_statement 146 = .ok (.iload_n 1, 1) := by decide +kernel
theorem dX7_statement_147 : decode cX7_statement 147 = .ok (.invokevirtual 146, 3) := by decide +kernel
theorem dX7_statement_150 : decode cX7_statement 150 = .ok (.ifCond .eq 7, 3) := by decide +kernel
theorem dX7_statement_153 : decode cX7_statement 153 = .ok (.iconst 1, 1) := by decide +kernel
theorem dX7_statement_154 : decode cX7_statement 154 = .ok (.goto 4, 3) := by decide +kernel
theorem dX7_statement_157 : decode cX7_statement 157 = .ok (.iconst 0, 1) := by decide +kernel
theorem dX7_statement_158 : decode cX7_statement 158 = .ok (.ireturn, 1) := by decide +kernel
theorem dX7_begin_0 : decode cX7_begin 0 = .ok (.aload_n 0, 1) := by decide +kernel
theorem dX7_begin_1 : decode cX7_begin 1 = .ok (.iload_n 1, 1) := by decide +kernel
theorem dX7_begin_2 : decode cX7_begin 2 = .ok (.putfield 99, 3) := by decide +kernel
theorem dX7_begin_5 : decode cX7_begin 5 = .ok (.aload_n 0, 1) := by decide +kernel
theorem dX7_begin_6 : decode cX7_begin 6 = .ok (.iconst 0, 1) := by decide +kernel
theorem dX7_begin_7 : decode cX7_begin 7 = .ok (.putfield 95, 3) := by decide +kernel
theorem dX7_begin_10 : decode cX7_begin 10 = .ok (.return_, 1) := by decide +kernel
theorem dX7_isMore_0 : decode cX7_isMore 0 = .ok (.aload_n 0, 1) := by decide +kernel
theorem dX7_isMore_1 : decode cX7_isMore 1 = .ok (.getfield 95, 3) := by decide +kernel
theorem dX7_isMore_4 : decode cX7_isMore 4 = .ok (.aload_n 0, 1) := by decide +kernel
theorem dX7_isMore_5 : decode cX7_isMore 5 = .ok (.getfield 13, 3) := by decide +kernel
theorem dX7_isMore_8 : decode cX7_isMore 8 = .ok (.aload_n 0, 1) := by decide +kernel
theorem dX7_isMore_9 : decode cX7_isMore 9 = .ok (.getfield 99, 3) := by decide +kernel
theorem dX7_isMore_12 : decode cX7_isMore 12 = .ok (.iaload, 1) := by decide +kernel
theorem dX7_isMore_13 : decode cX7_isMore 13 = .ok (.if_icmp .ge 7, 3) := by decide +kernel
theorem dX7_isMore_16 : decode cX7_isMore 16 = .ok (.iconst 1, 1) := by decide +kernel
theorem dX7_isMore_17 : decode cX7_isMore 17 = .ok (.goto 4, 3) := by decide +kernel
theorem dX7_isMore_20 : decode cX7_isMore 20 = .ok (.iconst 0, 1) := by decide +kernel
theorem dX7_isMore_21 : decode cX7_isMore 21 = .ok (.ireturn, 1) := by decide +kernel
theorem dX7_faultOf_0 : decode cX7_faultOf 0 = .ok (.aload_n 0, 1) := by decide +kernel
theorem dX7_faultOf_1 : decode cX7_faultOf 1 = .ok (.iload_n 1, 1) := by decide +kernel
theorem dX7_faultOf_2 : decode cX7_faultOf 2 = .ok (.invokevirtual 149, 3) := by decide +kernel
theorem dX7_faultOf_5 : decode cX7_faultOf 5 = .ok (.aload_n 0, 1) := by decide +kernel
theorem dX7_faultOf_6 : decode cX7_faultOf 6 = .ok (.invokevirtual 153, 3) := by decide +kernel
theorem dX7_faultOf_9 : decode cX7_faultOf 9 = .ok (.ifCond .eq 16, 3) := by decide +kernel
theorem dX7_faultOf_12 : decode cX7_faultOf 12 = .ok (.aload_n 0, 1) := by decide +kernel
theorem dX7_faultOf_13 : decode cX7_faultOf 13 = .ok (.iconst 0, 1) := by decide +kernel
theorem dX7_faultOf_14 : decode cX7_faultOf 14 = .ok (.invokevirtual 156, 3) := by decide +kernel
theorem dX7_faultOf_17 : decode cX7_faultOf 17 = .ok (.ifCond .ne (-12), 3) := by decide +kernel
theorem dX7_faultOf_20 : decode cX7_faultOf 20 = .ok (.aload_n 0, 1) := by decide +kernel
theorem dX7_faultOf_21 : decode cX7_faultOf 21 = .ok (.getfield 95, 3) := by decide +kernel
theorem dX7_faultOf_24 : decode cX7_faultOf 24 = .ok (.ireturn, 1) := by decide +kernel
theorem dX7_faultOf_25 : decode cX7_faultOf 25 = .ok (.bipush (-6), 2) := by decide +kernel
theorem dX7_faultOf_27 : decode cX7_faultOf 27 = .ok (.ireturn, 1) := by decide +kernel
theorem dX7_fault_0 : decode cX7_fault 0 = .ok (.iload_n 1, 1) := by decide +kernel
theorem dX7_fault_1 : decode cX7_fault 1 = .ok (.invokestatic 87, 3) := by decide +kernel
theorem dX7_fault_4 : decode cX7_fault 4 = .ok (.ifCond .eq 11, 3) := by decide +kernel
theorem dX7_fault_7 : decode cX7_fault 7 = .ok (.aload_n 0, 1) := by decide +kernel
theorem dX7_fault_8 : decode cX7_fault 8 = .ok (.iload_n 1, 1) := by decide +kernel
theorem dX7_fault_9 : decode cX7_fault 9 = .ok (.invokevirtual 159, 3) := by decide +kernel
theorem dX7_fault_12 : decode cX7_fault 12 = .ok (.goto 4, 3) := by decide +kernel
theorem dX7_fault_15 : decode cX7_fault 15 = .ok (.iconst (-1), 1) := by decide +kernel
theorem dX7_fault_16 : decode cX7_fault 16 = .ok (.ireturn, 1) := by decide +kernel
theorem dX7_set_0 : decode cX7_set 0 = .ok (.iload_n 1, 1) := by decide +kernel
theorem dX7_set_1 : decode cX7_set 1 = .ok (.invokestatic 162, 3) := by decide +kernel
theorem dX7_set_4 : decode cX7_set 4 = .ok (.ifCond .ne 5, 3) := by decide +kernel
theorem dX7_set_7 : decode cX7_set 7 = .ok (.iconst (-1), 1) := by decide +kernel
theorem dX7_set_8 : decode cX7_set 8 = .ok (.ireturn, 1) := by decide +kernel
theorem dX7_set_9 : decode cX7_set 9 = .ok (.iload_n 2, 1) := by decide +kernel
theorem dX7_set_10 : decode cX7_set 10 = .ok (.i2l, 1) := by decide +kernel
theorem dX7_set_11 : decode cX7_set 11 = .ok (.lconst 0, 1) := by decide +kernel
theorem dX7_set_12 : decode cX7_set 12 = .ok (.ldc2_w 165, 3) := by decide +kernel
theorem dX7_set_15 : decode cX7_set 15 = .ok (.invokestatic 79, 3) := by decide +kernel
theorem dX7_set_18 : decode cX7_set 18 = .ok (.ifCond .ne 6, 3) := by decide +kernel
theorem dX7_set_21 : decode cX7_set 21 = .ok (.bipush (-2), 2) := by decide +kernel
theorem dX7_set_23 : decode cX7_set 23 = .ok (.ireturn, 1) := by decide +kernel
theorem dX7_set_24 : decode cX7_set 24 = .ok (.aload_n 0, 1) := by decide +kernel
theorem dX7_set_25 : decode cX7_set 25 = .ok (.getfield 16, 3) := by decide +kernel
theorem dX7_set_28 : decode cX7_set 28 = .ok (.iload_n 1, 1) := by decide +kernel
theorem dX7_set_29 : decode cX7_set 29 = .ok (.iaload, 1) := by decide +kernel
theorem dX7_set_30 : decode cX7_set 30 = .ok (.istore_n 3, 1) := by decide +kernel
theorem dX7_set_31 : decode cX7_set 31 = .ok (.aload_n 0, 1) := by decide +kernel
theorem dX7_set_32 : decode cX7_set 32 = .ok (.getfield 16, 3) := by decide +kernel
theorem dX7_set_35 : decode cX7_set 35 = .ok (.iload_n 1, 1) := by decide +kernel
theorem dX7_set_36 : decode cX7_set 36 = .ok (.iload_n 2, 1) := by decide +kernel
theorem dX7_set_37 : decode cX7_set 37 = .ok (.iastore, 1) := by decide +kernel
theorem dX7_set_38 : decode cX7_set 38 = .ok (.iload_n 3, 1) := by decide +kernel
theorem dX7_set_39 : decode cX7_set 39 = .ok (.ireturn, 1) := by decide +kernel
theorem dX7_get_0 : decode cX7_get 0 = .ok (.iload_n 1, 1) := by decide +kernel
theorem dX7_get_1 : decode cX7_get 1 = .ok (.invokestatic 162, 3) := by decide +kernel
theorem dX7_get_4 : decode cX7_get 4 = .ok (.ifCond .eq 12, 3) := by decide +kernel
theorem dX7_get_7 : decode cX7_get 7 = .ok (.aload_n 0, 1) := by decide +kernel
theorem dX7_get_8 : decode cX7_get 8 = .ok (.getfield 16, 3) := by decide +kernel
theorem dX7_get_11 : decode cX7_get 11 = .ok (.iload_n 1, 1) := by decide +kernel
theorem dX7_get_12 : decode cX7_get 12 = .ok (.iaload, 1) := by decide +kernel
theorem dX7_get_13 : decode cX7_get 13 = .ok (.goto 4, 3) := by decide +kernel
theorem dX7_get_16 : decode cX7_get 16 = .ok (.iconst (-1), 1) := by decide +kernel
theorem dX7_get_17 : decode cX7_get 17 = .ok (.ireturn, 1) := by decide +kernel
theorem dX7_callsOf_0 : decode cX7_callsOf 0 = .ok (.iconst 0, 1) := by decide +kernel
theorem dX7_callsOf_1 : decode cX7_callsOf 1 = .ok (.istore_n 2, 1) := by decide +kernel
theorem dX7_callsOf_2 : decode cX7_callsOf 2 = .ok (.aload_n 0, 1) := by decide +kernel
theorem dX7_callsOf_3 : decode cX7_callsOf 3 = .ok (.iload_n 1, 1) := by decide +kernel
theorem dX7_callsOf_4 : decode cX7_callsOf 4 = .ok (.invokevirtual 149, 3) := by decide +kernel
theorem dX7_callsOf_7 : decode cX7_callsOf 7 = .ok (.aload_n 0, 1) := by decide +kernel
theorem dX7_callsOf_8 : decode cX7_callsOf 8 = .ok (.invokevirtual 153, 3) := by decide +kernel
theorem dX7_callsOf_11 : decode cX7_callsOf 11 = .ok (.ifCond .eq 36, 3) := by decide +kernel
theorem dX7_callsOf_14 : decode cX7_callsOf 14 = .ok (.aload_n 0, 1) := by decide +kernel
theorem dX7_callsOf_15 : decode cX7_callsOf 15 = .ok (.iconst 0, 1) := by decide +kernel
theorem dX7_callsOf_16 : decode cX7_callsOf 16 = .ok (.invokevirtual 156, 3) := by decide +kernel
theorem dX7_callsOf_19 : decode cX7_callsOf 19 = .ok (.ifCond .eq 28, 3) := by decide +kernel
theorem dX7_callsOf_22 : decode cX7_callsOf 22 = .ok (.iload_n 2, 1) := by decide +kernel
theorem dX7_callsOf_23 : decode cX7_callsOf 23 = .ok (.aload_n 0, 1) := by decide +kernel
theorem dX7_callsOf_24 : decode cX7_callsOf 24 = .ok (.getfield 133, 3) := by decide +kernel
theorem dX7_callsOf_27 : decode cX7_callsOf 27 = .ok (.bipush 99, 2) := by decide +kernel
theorem dX7_callsOf_29 : decode cX7_callsOf 29 = .ok (.if_icmp .ne 12, 3) := by decide +kernel
theorem dX7_callsOf_32 : decode cX7_callsOf 32 = .ok (.iconst 1, 1) := by decide +kernel
theorem dX7_callsOf_33 : decode cX7_callsOf 33 = .ok (.aload_n 0, 1) := by decide +kernel
end
section
theorem dX7_callsOf_34 : decode cX7_callsOf 34 = .ok (.getfield 127, 3) := by decide +kernel
theorem dX7_callsOf_37 : decode cX7_callsOf 37 = .ok (.ishl, 1) := by decide +kernel
theorem dX7_callsOf_38 : decode cX7_callsOf 38 = .ok (.goto 4, 3) := by decide +kernel
theorem dX7_callsOf_41 : decode cX7_callsOf 41 = .ok (.iconst 0, 1) := by decide +kernel
theorem dX7_callsOf_42 : decode cX7_callsOf 42 = .ok (.ior, 1) := by decide +kernel
theorem dX7_callsOf_43 : decode cX7_callsOf 43 = .ok (.istore_n 2, 1) := by decide +kernel
theorem dX7_callsOf_44 : decode cX7_callsOf 44 = .ok (.goto (-37), 3) := by decide +kernel
theorem dX7_callsOf_47 : decode cX7_callsOf 47 = .ok (.iload_n 2, 1) := by decide +kernel
theorem dX7_callsOf_48 : decode cX7_callsOf 48 = .ok (.ireturn, 1) := by decide +kernel
theorem dX7_findReaches_0 : decode cX7_findReaches 0 = .ok (.iconst 0, 1) := by decide +kernel
theorem dX7_findReaches_1 : decode cX7_findReaches 1 = .ok (.istore_n 1, 1) := by decide +kernel
theorem dX7_findReaches_2 : decode cX7_findReaches 2 = .ok (.iload_n 1, 1) := by decide +kernel
theorem dX7_findReaches_3 : decode cX7_findReaches 3 = .ok (.bipush 6, 2) := by decide +kernel
theorem dX7_findReaches_5 : decode cX7_findReaches 5 = .ok (.if_icmp .ge 24, 3) := by decide +kernel
theorem dX7_findReaches_8 : decode cX7_findReaches 8 = .ok (.aload_n 0, 1) := by decide +kernel
theorem dX7_findReaches_9 : decode cX7_findReaches 9 = .ok (.getfield 37, 3) := by decide +kernel
theorem dX7_findReaches_12 : decode cX7_findReaches 12 = .ok (.iload_n 1, 1) := by decide +kernel
theorem dX7_findReaches_13 : decode cX7_findReaches 13 = .ok (.iconst 1, 1) := by decide +kernel
theorem dX7_findReaches_14 : decode cX7_findReaches 14 = .ok (.iload_n 1, 1) := by decide +kernel
theorem dX7_findReaches_15 : decode cX7_findReaches 15 = .ok (.ishl, 1) := by decide +kernel
theorem dX7_findReaches_16 : decode cX7_findReaches 16 = .ok (.aload_n 0, 1) := by decide +kernel
theorem dX7_findReaches_17 : decode cX7_findReaches 17 = .ok (.iload_n 1, 1) := by decide +kernel
theorem dX7_findReaches_18 : decode cX7_findReaches 18 = .ok (.invokevirtual 167, 3) := by decide +kernel
theorem dX7_findReaches_21 : decode cX7_findReaches 21 = .ok (.ior, 1) := by decide +kernel
theorem dX7_findReaches_22 : decode cX7_findReaches 22 = .ok (.iastore, 1) := by decide +kernel
theorem dX7_findReaches_23 : decode cX7_findReaches 23 = .ok (.iinc 1 1, 3) := by decide +kernel
theorem dX7_findReaches_26 : decode cX7_findReaches 26 = .ok (.goto (-24), 3) := by decide +kernel
theorem dX7_findReaches_29 : decode cX7_findReaches 29 = .ok (.iconst 0, 1) := by decide +kernel
theorem dX7_findReaches_30 : decode cX7_findReaches 30 = .ok (.istore_n 1, 1) := by decide +kernel
theorem dX7_findReaches_31 : decode cX7_findReaches 31 = .ok (.iload_n 1, 1) := by decide +kernel
theorem dX7_findReaches_32 : decode cX7_findReaches 32 = .ok (.bipush 6, 2) := by decide +kernel
theorem dX7_findReaches_34 : decode cX7_findReaches 34 = .ok (.if_icmp .ge 70, 3) := by decide +kernel
theorem dX7_findReaches_37 : decode cX7_findReaches 37 = .ok (.iconst 0, 1) := by decide +kernel
theorem dX7_findReaches_38 : decode cX7_findReaches 38 = .ok (.istore_n 2, 1) := by decide +kernel
theorem dX7_findReaches_39 : decode cX7_findReaches 39 = .ok (.iload_n 2, 1) := by decide +kernel
theorem dX7_findReaches_40 : decode cX7_findReaches 40 = .ok (.bipush 6, 2) := by decide +kernel
theorem dX7_findReaches_42 : decode cX7_findReaches 42 = .ok (.if_icmp .ge 56, 3) := by decide +kernel
theorem dX7_findReaches_45 : decode cX7_findReaches 45 = .ok (.iconst 0, 1) := by decide +kernel
theorem dX7_findReaches_46 : decode cX7_findReaches 46 = .ok (.istore_n 3, 1) := by decide +kernel
theorem dX7_findReaches_47 : decode cX7_findReaches 47 = .ok (.iload_n 3, 1) := by decide +kernel
theorem dX7_findReaches_48 : decode cX7_findReaches 48 = .ok (.bipush 6, 2) := by decide +kernel
theorem dX7_findReaches_50 : decode cX7_findReaches 50 = .ok (.if_icmp .ge 42, 3) := by decide +kernel
theorem dX7_findReaches_53 : decode cX7_findReaches 53 = .ok (.aload_n 0, 1) := by decide +kernel
theorem dX7_findReaches_54 : decode cX7_findReaches 54 = .ok (.getfield 37, 3) := by decide +kernel
theorem dX7_findReaches_57 : decode cX7_findReaches 57 = .ok (.iload_n 2, 1) := by decide +kernel
theorem dX7_findReaches_58 : decode cX7_findReaches 58 = .ok (.dup2, 1) := by decide +kernel
theorem dX7_findReaches_59 : decode cX7_findReaches 59 = .ok (.iaload, 1) := by decide +kernel
theorem dX7_findReaches_60 : decode cX7_findReaches 60 = .ok (.aload_n 0, 1) := by decide +kernel
theorem dX7_findReaches_61 : decode cX7_findReaches 61 = .ok (.getfield 37, 3) := by decide +kernel
theorem dX7_findReaches_64 : decode cX7_findReaches 64 = .ok (.iload_n 2, 1) := by decide +kernel
theorem dX7_findReaches_65 : decode cX7_findReaches 65 = .ok (.iaload, 1) := by decide +kernel
theorem dX7_findReaches_66 : decode cX7_findReaches 66 = .ok (.iload_n 3, 1) := by decide +kernel
theorem dX7_findReaches_67 : decode cX7_findReaches 67 = .ok (.ishr, 1) := by decide +kernel
theorem dX7_findReaches_68 : decode cX7_findReaches 68 = .ok (.iconst 1, 1) := by decide +kernel
theorem dX7_findReaches_69 : decode cX7_findReaches 69 = .ok (.iand, 1) := by decide +kernel
theorem dX7_findReaches_70 : decode cX7_findReaches 70 = .ok (.iconst 1, 1) := by decide +kernel
theorem dX7_findReaches_71 : decode cX7_findReaches 71 = .ok (.if_icmp .ne 12, 3) := by decide +kernel
theorem dX7_findReaches_74 : decode cX7_findReaches 74 = .ok (.aload_n 0, 1) := by decide +kernel
theorem dX7_findReaches_75 : decode cX7_findReaches 75 = .ok (.getfield 37, 3) := by decide +kernel
theorem dX7_findReaches_78 : decode cX7_findReaches 78 = .ok (.iload_n 3, 1) := by decide +kernel
theorem dX7_findReaches_79 : decode cX7_findReaches 79 = .ok (.iaload, 1) := by decide +kernel
theorem dX7_findReaches_80 : decode cX7_findReaches 80 = .ok (.goto 4, 3) := by decide +kernel
theorem dX7_findReaches_83 : decode cX7_findReaches 83 = .ok (.iconst 0, 1) := by decide +kernel
theorem dX7_findReaches_84 : decode cX7_findReaches 84 = .ok (.ior, 1) := by decide +kernel
theorem dX7_findReaches_85 : decode cX7_findReaches 85 = .ok (.iastore, 1) := by decide +kernel
theorem dX7_findReaches_86 : decode cX7_findReaches 86 = .ok (.iinc 3 1, 3) := by decide +kernel
theorem dX7_findReaches_89 : decode cX7_findReaches 89 = .ok (.goto (-42), 3) := by decide +kernel
theorem dX7_findReaches_92 : decode cX7_findReaches 92 = .ok (.iinc 2 1, 3) := by decide +kernel
theorem dX7_findReaches_95 : decode cX7_findReaches 95 = .ok (.goto (-56), 3) := by decide +kernel
theorem dX7_findReaches_98 : decode cX7_findReaches 98 = .ok (.iinc 1 1, 3) := by decide +kernel
theorem dX7_findReaches_101 : decode cX7_findReaches 101 = .ok (.goto (-70), 3) := by decide +kernel
theorem dX7_findReaches_104 : decode cX7_findReaches 104 = .ok (.return_, 1) := by decide +kernel
theorem dX7_isKnown_0 : decode cX7_isKnown 0 = .ok (.iconst 1, 1) := by decide +kernel
theorem dX7_isKnown_1 : decode cX7_isKnown 1 = .ok (.istore_n 2, 1) := by decide +kernel
theorem dX7_isKnown_2 : decode cX7_isKnown 2 = .ok (.iconst 0, 1) := by decide +kernel
theorem dX7_isKnown_3 : decode cX7_isKnown 3 = .ok (.istore_n 3, 1) := by decide +kernel
theorem dX7_isKnown_4 : decode cX7_isKnown 4 = .ok (.iload_n 3, 1) := by decide +kernel
theorem dX7_isKnown_5 : decode cX7_isKnown 5 = .ok (.bipush 6, 2) := by decide +kernel
theorem dX7_isKnown_7 : decode cX7_isKnown 7 = .ok (.if_icmp .ge 40, 3) := by decide +kernel
theorem dX7_isKnown_10 : decode cX7_isKnown 10 = .ok (.iload_n 2, 1) := by decide +kernel
theorem dX7_isKnown_11 : decode cX7_isKnown 11 = .ok (.ifCond .eq 28, 3) := by decide +kernel
theorem dX7_isKnown_14 : decode cX7_isKnown 14 = .ok (.aload_n 0, 1) := by decide +kernel
theorem dX7_isKnown_15 : decode cX7_isKnown 15 = .ok (.getfield 37, 3) := by decide +kernel
theorem dX7_isKnown_18 : decode cX7_isKnown 18 = .ok (.iload_n 1, 1) := by decide +kernel
theorem dX7_isKnown_19 : decode cX7_isKnown 19 = .ok (.iaload, 1) := by decide +kernel
theorem dX7_isKnown_20 : decode cX7_isKnown 20 = .ok (.iload_n 3, 1) := by decide +kernel
theorem dX7_isKnown_21 : decode cX7_isKnown 21 = .ok (.ishr, 1) := by decide +kernel
theorem dX7_isKnown_22 : decode cX7_isKnown 22 = .ok (.iconst 1, 1) := by decide +kernel
theorem dX7_isKnown_23 : decode cX7_isKnown 23 = .ok (.iand, 1) := by decide +kernel
theorem dX7_isKnown_24 : decode cX7_isKnown 24 = .ok (.ifCond .eq 11, 3) := by decide +kernel
theorem dX7_isKnown_27 : decode cX7_isKnown 27 = .ok (.aload_n 0, 1) := by decide +kernel
theorem dX7_isKnown_28 : decode cX7_isKnown 28 = .ok (.iload_n 3, 1) := by decide +kernel
theorem dX7_isKnown_29 : decode cX7_isKnown 29 = .ok (.invokevirtual 159, 3) := by decide +kernel
theorem dX7_isKnown_32 : decode cX7_isKnown 32 = .ok (.ifCond .ge 7, 3) := by decide +kernel
theorem dX7_isKnown_35 : decode cX7_isKnown 35 = .ok (.iconst 1, 1) := by decide +kernel
theorem dX7_isKnown_36 : decode cX7_isKnown 36 = .ok (.goto 4, 3) := by decide +kernel
theorem dX7_isKnown_39 : decode cX7_isKnown 39 = .ok (.iconst 0, 1) := by decide +kernel
theorem dX7_isKnown_40 : decode cX7_isKnown 40 = .ok (.istore_n 2, 1) := by decide +kernel
theorem dX7_isKnown_41 : decode cX7_isKnown 41 = .ok (.iinc 3 1, 3) := by decide +kernel
theorem dX7_isKnown_44 : decode cX7_isKnown 44 = .ok (.goto (-40), 3) := by decide +kernel
theorem dX7_isKnown_47 : decode cX7_isKnown 47 = .ok (.iload_n 2, 1) := by decide +kernel
theorem dX7_isKnown_48 : decode cX7_isKnown 48 = .ok (.ireturn, 1) := by decide +kernel
theorem dX7_more_0 : decode cX7_more 0 = .ok (.aload_n 0, 1) := by decide +kernel
theorem dX7_more_1 : decode cX7_more 1 = .ok (.aload_n 0, 1) := by decide +kernel
theorem dX7_more_2 : decode cX7_more 2 = .ok (.getfield 170, 3) := by decide +kernel
theorem dX7_more_5 : decode cX7_more 5 = .ok (.ifCond .ne 10, 3) := by decide +kernel
theorem dX7_more_8 : decode cX7_more 8 = .ok (.iload_n 1, 1) := by decide +kernel
theorem dX7_more_9 : decode cX7_more 9 = .ok (.iload_n 2, 1) := by decide +kernel
theorem dX7_more_10 : decode cX7_more 10 = .ok (.ior, 1) := by decide +kernel
theorem dX7_more_11 : decode cX7_more 11 = .ok (.iload_n 1, 1) := by decide +kernel
theorem dX7_more_12 : decode cX7_more 12 = .ok (.if_icmp .eq 7, 3) := by decide +kernel
theorem dX7_more_15 : decode cX7_more 15 = .ok (.iconst 1, 1) := by decide +kernel
theorem dX7_more_16 : decode cX7_more 16 = .ok (.goto 4, 3) := by decide +kernel
theorem dX7_more_19 : decode cX7_more 19 = .ok (.iconst 0, 1) := by decide +kernel
theorem dX7_more_20 : decode cX7_more 20 = .ok (.putfield 170, 3) := by decide +kernel
theorem dX7_more_23 : decode cX7_more 23 = .ok (.iload_n 1, 1) := by decide +kernel
theorem dX7_more_24 : decode cX7_more 24 = .ok (.iload_n 2, 1) := by decide +kernel
theorem dX7_more_25 : decode cX7_more 25 = .ok (.ior, 1) := by decide +kernel
theorem dX7_more_26 : decode cX7_more 26 = .ok (.ireturn, 1) := by decide +kernel
theorem dX7_takeIn_0 : decode cX7_takeIn 0 = .ok (.aload_n 0, 1) := by decide +kernel
theorem dX7_takeIn_1 : decode cX7_takeIn 1 = .ok (.getfield 25, 3) := by decide +kernel
theorem dX7_takeIn_4 : decode cX7_takeIn 4 = .ok (.iload_n 1, 1) := by decide +kernel
theorem dX7_takeIn_5 : decode cX7_takeIn 5 = .ok (.aload_n 0, 1) := by decide +kernel
theorem dX7_takeIn_6 : decode cX7_takeIn 6 = .ok (.aload_n 0, 1) := by decide +kernel
theorem dX7_takeIn_7 : decode cX7_takeIn 7 = .ok (.getfield 25, 3) := by decide +kernel
theorem dX7_takeIn_10 : decode cX7_takeIn 10 = .ok (.iload_n 1, 1) := by decide +kernel
theorem dX7_takeIn_11 : decode cX7_takeIn 11 = .ok (.iaload, 1) := by decide +kernel
theorem dX7_takeIn_12 : decode cX7_takeIn 12 = .ok (.iload_n 2, 1) := by decide +kernel
theorem dX7_takeIn_13 : decode cX7_takeIn 13 = .ok (.invokevirtual 174, 3) := by decide +kernel
theorem dX7_takeIn_16 : decode cX7_takeIn 16 = .ok (.iastore, 1) := by decide +kernel
theorem dX7_takeIn_17 : decode cX7_takeIn 17 = .ok (.aload_n 0, 1) := by decide +kernel
theorem dX7_takeIn_18 : decode cX7_takeIn 18 = .ok (.getfield 28, 3) := by decide +kernel
theorem dX7_takeIn_21 : decode cX7_takeIn 21 = .ok (.iload_n 1, 1) := by decide +kernel
theorem dX7_takeIn_22 : decode cX7_takeIn 22 = .ok (.aload_n 0, 1) := by decide +kernel
theorem dX7_takeIn_23 : decode cX7_takeIn 23 = .ok (.aload_n 0, 1) := by decide +kernel
theorem dX7_takeIn_24 : decode cX7_takeIn 24 = .ok (.getfield 28, 3) := by decide +kernel
theorem dX7_takeIn_27 : decode cX7_takeIn 27 = .ok (.iload_n 1, 1) := by decide +kernel
theorem dX7_takeIn_28 : decode cX7_takeIn 28 = .ok (.iaload, 1) := by decide +kernel
theorem dX7_takeIn_29 : decode cX7_takeIn 29 = .ok (.iload_n 3, 1) := by decide +kernel
theorem dX7_takeIn_30 : decode cX7_takeIn 30 = .ok (.invokevirtual 174, 3) := by decide +kernel
theorem dX7_takeIn_33 : decode cX7_takeIn 33 = .ok (.iastore, 1) := by decide +kernel
theorem dX7_takeIn_34 : decode cX7_takeIn 34 = .ok (.aload_n 0, 1) := by decide +kernel
theorem dX7_takeIn_35 : decode cX7_takeIn 35 = .ok (.getfield 31, 3) := by decide +kernel
theorem dX7_takeIn_38 : decode cX7_takeIn 38 = .ok (.iload_n 1, 1) := by decide +kernel
theorem dX7_takeIn_39 : decode cX7_takeIn 39 = .ok (.aload_n 0, 1) := by decide +kernel
theorem dX7_takeIn_40 : decode cX7_takeIn 40 = .ok (.aload_n 0, 1) := by decide +kernel
theorem dX7_takeIn_41 : decode cX7_takeIn 41 = .ok (.getfield 31, 3) := by decide +kernel
theorem dX7_takeIn_44 : decode cX7_takeIn 44 = .ok (.iload_n 1, 1) := by decide +kernel
theorem dX7_takeIn_45 : decode cX7_takeIn 45 = .ok (.iaload, 1) := by decide +kernel
theorem dX7_takeIn_46 : decode cX7_takeIn 46 = .ok (.iload 4, 2) := by decide +kernel
theorem dX7_takeIn_48 : decode cX7_takeIn 48 = .ok (.invokevirtual 174, 3) := by decide +kernel
theorem dX7_takeIn_51 : decode cX7_takeIn 51 = .ok (.iastore, 1) := by decide +kernel
theorem dX7_takeIn_52 : decode cX7_takeIn 52 = .ok (.aload_n 0, 1) := by decide +kernel
theorem dX7_takeIn_53 : decode cX7_takeIn 53 = .ok (.getfield 34, 3) := by decide +kernel
theorem dX7_takeIn_56 : decode cX7_takeIn 56 = .ok (.iload_n 1, 1) := by decide +kernel
theorem dX7_takeIn_57 : decode cX7_takeIn 57 = .ok (.aload_n 0, 1) := by decide +kernel
theorem dX7_takeIn_58 : decode cX7_takeIn 58 = .ok (.aload_n 0, 1) := by decide +kernel
theorem dX7_takeIn_59 : decode cX7_takeIn 59 = .ok (.getfield 34, 3) := by decide +kernel
theorem dX7_takeIn_62 : decode cX7_takeIn 62 = .ok (.iload_n 1, 1) := by decide +kernel
theorem dX7_takeIn_63 : decode cX7_takeIn 63 = .ok (.iaload, 1) := by decide +kernel
theorem dX7_takeIn_64 : decode cX7_takeIn 64 = .ok (.iload 5, 2) := by decide +kernel
theorem dX7_takeIn_66 : decode cX7_takeIn 66 = .ok (.invokevirtual 174, 3) := by decide +kernel
theorem dX7_takeIn_69 : decode cX7_takeIn 69 = .ok (.iastore, 1) := by decide +kernel
theorem dX7_takeIn_70 : decode cX7_takeIn 70 = .ok (.return_, 1) := by decide +kernel
theorem dX7_addEffects_0 : decode cX7_addEffects 0 = .ok (.bipush 12, 2) := by decide +kernel
theorem dX7_addEffects_2 : decode cX7_addEffects 2 = .ok (.iload_n 1, 1) := by decide +kernel
theorem dX7_addEffects_3 : decode cX7_addEffects 3 = .ok (.imul, 1) := by decide +kernel
theorem dX7_addEffects_4 : decode cX7_addEffects 4 = .ok (.iload_n 2, 1) := by decide +kernel
theorem dX7_addEffects_5 : decode cX7_addEffects 5 = .ok (.iadd, 1) := by decide +kernel
theorem dX7_addEffects_6 : decode cX7_addEffects 6 = .ok (.istore_n 3, 1) := by decide +kernel
theorem dX7_addEffects_7 : decode cX7_addEffects 7 = .ok (.aload_n 0, 1) := by decide +kernel
theorem dX7_addEffects_8 : decode cX7_addEffects 8 = .ok (.iload_n 1, 1) := by decide +kernel
theorem dX7_addEffects_9 : decode cX7_addEffects 9 = .ok (.invokevirtual 149, 3) := by decide +kernel
theorem dX7_addEffects_12 : decode cX7_addEffects 12 = .ok (.aload_n 0, 1) := by decide +kernel
theorem dX7_addEffects_13 : decode cX7_addEffects 13 = .ok (.invokevirtual 153, 3) := by decide +kernel
theorem dX7_addEffects_16 : decode cX7_addEffects 16 = .ok (.ifCond .eq 164, 3) := by decide +kernel
theorem dX7_addEffects_19 : decode cX7_addEffects 19 = .ok (.aload_n 0, 1) := by decide +kernel
theorem dX7_addEffects_20 : decode cX7_addEffects 20 = .ok (.iload_n 2, 1) := by decide +kernel
theorem dX7_addEffects_21 : decode cX7_addEffects 21 = .ok (.invokevirtual 156, 3) := by decide +kernel
theorem dX7_addEffects_24 : decode cX7_addEffects 24 = .ok (.ifCond .eq 156, 3) := by decide +kernel
theorem dX7_addEffects_27 : decode cX7_addEffects 27 = .ok (.bipush 12, 2) := by decide +kernel
theorem dX7_addEffects_29 : decode cX7_addEffects 29 = .ok (.aload_n 0, 1) := by decide +kernel
theorem dX7_addEffects_30 : decode cX7_addEffects 30 = .ok (.getfield 127, 3) := by decide +kernel
theorem dX7_addEffects_33 : decode cX7_addEffects 33 = .ok (.imul, 1) := by decide +kernel
theorem dX7_addEffects_34 : decode cX7_addEffects 34 = .ok (.aload_n 0, 1) := by decide +kernel
theorem dX7_addEffects_35 : decode cX7_addEffects 35 = .ok (.getfield 130, 3) := by decide +kernel
theorem dX7_addEffects_38 : decode cX7_addEffects 38 = .ok (.iadd, 1) := by decide +kernel
theorem dX7_addEffects_39 : decode cX7_addEffects 39 = .ok (.istore 4, 2) := by decide +kernel
theorem dX7_addEffects_41 : decode cX7_addEffects 41 = .ok (.aload_n 0, 1) := by decide +kernel
theorem dX7_addEffects_42 : decode cX7_addEffects 42 = .ok (.getfield 133, 3) := by decide +kernel
theorem dX7_addEffects_45 : decode cX7_addEffects 45 = .ok (.bipush 99, 2) := by decide +kernel
theorem dX7_addEffects_47 : decode cX7_addEffects 47 = .ok (.if_icmp .ne 39, 3) := by decide +kernel
theorem dX7_addEffects_50 : decode cX7_addEffects 50 = .ok (.aload_n 0, 1) := by decide +kernel
theorem dX7_addEffects_51 : decode cX7_addEffects 51 = .ok (.iload_n 3, 1) := by decide +kernel
theorem dX7_addEffects_52 : decode cX7_addEffects 52 = .ok (.aload_n 0, 1) := by decide +kernel
theorem dX7_addEffects_53 : decode cX7_addEffects 53 = .ok (.getfield 25, 3) := by decide +kernel
theorem dX7_addEffects_56 : decode cX7_addEffects 56 = .ok (.iload 4, 2) := by decide +kernel
theorem dX7_addEffects_58 : decode cX7_addEffects 58 = .ok (.iaload, 1) := by decide +kernel
theorem dX7_addEffects_59 : decode cX7_addEffects 59 = .ok (.aload_n 0, 1) := by decide +kernel
theorem dX7_addEffects_60 : decode cX7_addEffects 60 = .ok (.getfield 28, 3) := by decide +kernel
theorem dX7_addEffects_63 : decode cX7_addEffects 63 = .ok (.iload 4, 2) := by decide +kernel
theorem dX7_addEffects_65 : decode cX7_addEffects 65 = .ok (.iaload, 1) := by decide +kernel
theorem dX7_addEffects_66 : decode cX7_addEffects 66 = .ok (.aload_n 0, 1) := by decide +kernel
theorem dX7_addEffects_67 : decode cX7_addEffects 67 = .ok (.getfield 31, 3) := by decide +kernel
theorem dX7_addEffects_70 : decode cX7_addEffects 70 = .ok (.iload 4, 2) := by decide +kernel
theorem dX7_addEffects_72 : decode cX7_addEffects 72 = .ok (.iaload, 1) := by decide +kernel
theorem dX7_addEffects_73 : decode cX7_addEffects 73 = .ok (.aload_n 0, 1) := by decide +kernel
theorem dX7_addEffects_74 : decode cX7_addEffects 74 = .ok (.getfield 34, 3) := by decide +kernel
theorem dX7_addEffects_77 : decode cX7_addEffects 77 = .ok (.iload 4, 2) := by decide +kernel
theorem dX7_addEffects_79 : decode cX7_addEffects 79 = .ok (.iaload, 1) := by decide +kernel
theorem dX7_addEffects_80 : decode cX7_addEffects 80 = .ok (.invokevirtual 178, 3) := by decide +kernel
theorem dX7_addEffects_83 : decode cX7_addEffects 83 = .ok (.goto 94, 3) := by decide +kernel
theorem dX7_addEffects_86 : decode cX7_addEffects 86 = .ok (.aload_n 0, 1) := by decide +kernel
theorem dX7_addEffects_87 : decode cX7_addEffects 87 = .ok (.getfield 133, 3) := by decide +kernel
theorem dX7_addEffects_90 : decode cX7_addEffects 90 = .ok (.bipush 63, 2) := by decide +kernel
theorem dX7_addEffects_92 : decode cX7_addEffects 92 = .ok (.if_icmp .ne 20, 3) := by decide +kernel
theorem dX7_addEffects_95 : decode cX7_addEffects 95 = .ok (.aload_n 0, 1) := by decide +kernel
theorem dX7_addEffects_96 : decode cX7_addEffects 96 = .ok (.iload_n 3, 1) := by decide +kernel
theorem dX7_addEffects_97 : decode cX7_addEffects 97 = .ok (.iconst 1, 1) := by decide +kernel
theorem dX7_addEffects_98 : decode cX7_addEffects 98 = .ok (.aload_n 0, 1) := by decide +kernel
theorem dX7_addEffects_99 : decode cX7_addEffects 99 = .ok (.getfield 124, 3) := by decide +kernel
theorem dX7_addEffects_102 : decode cX7_addEffects 102 = .ok (.ishl, 1) := by decide +kernel
theorem dX7_addEffects_103 : decode cX7_addEffects 103 = .ok (.iconst 0, 1) := by decide +kernel
theorem dX7_addEffects_104 : decode cX7_addEffects 104 = .ok (.iconst 0, 1) := by decide +kernel
theorem dX7_addEffects_105 : decode cX7_addEffects 105 = .ok (.iconst 1, 1) := by decide +kernel
theorem dX7_addEffects_106 : decode cX7_addEffects 106 = .ok (.invokevirtual 178, 3) := by decide +kernel
theorem dX7_addEffects_109 : decode cX7_addEffects 109 = .ok (.goto 68, 3) := by decide +kernel
theorem dX7_addEffects_112 : decode cX7_addEffects 112 = .ok (.aload_n 0, 1) := by decide +kernel
theorem dX7_addEffects_113 : decode cX7_addEffects 113 = .ok (.getfield 133, 3) := by decide +kernel
theorem dX7_addEffects_116 : decode cX7_addEffects 116 = .ok (.bipush 61, 2) := by decide +kernel
theorem dX7_addEffects_118 : decode cX7_addEffects 118 = .ok (.if_icmp .eq 12, 3) := by decide +kernel
theorem dX7_addEffects_121 : decode cX7_addEffects 121 = .ok (.aload_n 0, 1) := by decide +kernel
theorem dX7_addEffects_122 : decode cX7_addEffects 122 = .ok (.getfield 133, 3) := by decide +kernel
theorem dX7_addEffects_125 : decode cX7_addEffects 125 = .ok (.bipush 35, 2) := by decide +kernel
theorem dX7_addEffects_127 : decode cX7_addEffects 127 = .ok (.if_icmp .ne 7, 3) := by decide +kernel
theorem dX7_addEffects_130 : decode cX7_addEffects 130 = .ok (.iconst 1, 1) := by decide +kernel
theorem dX7_addEffects_131 : decode cX7_addEffects 131 = .ok (.goto 4, 3) := by decide +kernel
theorem dX7_addEffects_134 : decode cX7_addEffects 134 = .ok (.iconst 0, 1) := by decide +kernel
theorem dX7_addEffects_135 : decode cX7_addEffects 135 = .ok (.istore 5, 2) := by decide +kernel
theorem dX7_addEffects_137 : decode cX7_addEffects 137 = .ok (.aload_n 0, 1) := by decide +kernel
theorem dX7_addEffects_138 : decode cX7_addEffects 138 = .ok (.iload_n 3, 1) := by decide +kernel
theorem dX7_addEffects_139 : decode cX7_addEffects 139 = .ok (.aload_n 0, 1) := by decide +kernel
theorem dX7_addEffects_140 : decode cX7_addEffects 140 = .ok (.getfield 115, 3) := by decide +kernel
theorem dX7_addEffects_143 : decode cX7_addEffects 143 = .ok (.iload 5, 2) := by decide +kernel
theorem dX7_addEffects_145 : decode cX7_addEffects 145 = .ok (.ifCond .eq 12, 3) := by decide +kernel
theorem dX7_addEffects_148 : decode cX7_addEffects 148 = .ok (.iconst 1, 1) := by decide +kernel
theorem dX7_addEffects_149 : decode cX7_addEffects 149 = .ok (.aload_n 0, 1) := by decide +kernel
theorem dX7_addEffects_150 : decode cX7_addEffects 150 = .ok (.getfield 124, 3) := by decide +kernel
theorem dX7_addEffects_153 : decode cX7_addEffects 153 = .ok (.ishl, 1) := by decide +kernel
theorem dX7_addEffects_154 : decode cX7_addEffects 154 = .ok (.goto 4, 3) := by decide +kernel
theorem dX7_addEffects_157 : decode cX7_addEffects 157 = .ok (.iconst 0, 1) := by decide +kernel
theorem dX7_addEffects_158 : decode cX7_addEffects 158 = .ok (.iload 5, 2) := by decide +kernel
theorem dX7_addEffects_160 : decode cX7_addEffects 160 = .ok (.ifCond .eq 7, 3) := by decide +kernel
theorem dX7_addEffects_163 : decode cX7_addEffects 163 = .ok (.iconst 0, 1) := by decide +kernel
theorem dX7_addEffects_164 : decode cX7_addEffects 164 = .ok (.goto 9, 3) := by decide +kernel
theorem dX7_addEffects_167 : decode cX7_addEffects 167 = .ok (.iconst 1, 1) := by decide +kernel
theorem dX7_addEffects_168 : decode cX7_addEffects 168 = .ok (.aload_n 0, 1) := by decide +kernel
theorem dX7_addEffects_169 : decode cX7_addEffects 169 = .ok (.getfield 124, 3) := by decide +kernel
theorem dX7_addEffects_172 : decode cX7_addEffects 172 = .ok (.ishl, 1) := by decide +kernel
theorem dX7_addEffects_173 : decode cX7_addEffects 173 = .ok (.iconst 0, 1) := by decide +kernel
theorem dX7_addEffects_174 : decode cX7_addEffects 174 = .ok (.invokevirtual 178, 3) := by decide +kernel
theorem dX7_addEffects_177 : decode cX7_addEffects 177 = .ok (.goto (-165), 3) := by decide +kernel
theorem dX7_addEffects_180 : decode cX7_addEffects 180 = .ok (.return_, 1) := by decide +kernel
theorem dX7_findEffects_0 : decode cX7_findEffects 0 = .ok (.aload_n 0, 1) := by decide +kernel
theorem dX7_findEffects_1 : decode cX7_findEffects 1 = .ok (.invokevirtual 182, 3) := by decide +kernel
theorem dX7_findEffects_4 : decode cX7_findEffects 4 = .ok (.iconst 0, 1) := by decide +kernel
theorem dX7_findEffects_5 : decode cX7_findEffects 5 = .ok (.istore_n 1, 1) := by decide +kernel
theorem dX7_findEffects_6 : decode cX7_findEffects 6 = .ok (.iload_n 1, 1) := by decide +kernel
theorem dX7_findEffects_7 : decode cX7_findEffects 7 = .ok (.bipush 72, 2) := by decide +kernel
theorem dX7_findEffects_9 : decode cX7_findEffects 9 = .ok (.if_icmp .ge 37, 3) := by decide +kernel
theorem dX7_findEffects_12 : decode cX7_findEffects 12 = .ok (.aload_n 0, 1) := by decide +kernel
theorem dX7_findEffects_13 : decode cX7_findEffects 13 = .ok (.getfield 25, 3) := by decide +kernel
theorem dX7_findEffects_16 : decode cX7_findEffects 16 = .ok (.iload_n 1, 1) := by decide +kernel
theorem dX7_findEffects_17 : decode cX7_findEffects 17 = .ok (.iconst 0, 1) := by decide +kernel
theorem dX7_findEffects_18 : decode cX7_findEffects 18 = .ok (.iastore, 1) := by decide +kernel
theorem dX7_findEffects_19 : decode cX7_findEffects 19 = .ok (.aload_n 0, 1) := by decide +kernel
theorem dX7_findEffects_20 : decode cX7_findEffects 20 = .ok (.getfield 28, 3) := by decide +kernel
theorem dX7_findEffects_23 : decode cX7_findEffects 23 = .ok (.iload_n 1, 1) := by decide +kernel
theorem dX7_findEffects_24 : decode cX7_findEffects 24 = .ok (.iconst 0, 1) := by decide +kernel
theorem dX7_findEffects_25 : decode cX7_findEffects 25 = .ok (.iastore, 1) := by decide +kernel
theorem dX7_findEffects_26 : decode cX7_findEffects 26 = .ok (.aload_n 0, 1) := by decide +kernel
theorem dX7_findEffects_27 : decode cX7_findEffects 27 = .ok (.getfield 31, 3) := by decide +kernel
theorem dX7_findEffects_30 : decode cX7_findEffects 30 = .ok (.iload_n 1, 1) := by decide +kernel
theorem dX7_findEffects_31 : decode cX7_findEffects 31 = .ok (.iconst 0, 1) := by decide +kernel
theorem dX7_findEffects_32 : decode cX7_findEffects 32 = .ok (.iastore, 1) := by decide +kernel
theorem dX7_findEffects_33 : decode cX7_findEffects 33 = .ok (.aload_n 0, 1) := by decide +kernel
theorem dX7_findEffects_34 : decode cX7_findEffects 34 = .ok (.getfield 34, 3) := by decide +kernel
theorem dX7_findEffects_37 : decode cX7_findEffects 37 = .ok (.iload_n 1, 1) := by decide +kernel
theorem dX7_findEffects_38 : decode cX7_findEffects 38 = .ok (.iconst 0, 1) := by decide +kernel
theorem dX7_findEffects_39 : decode cX7_findEffects 39 = .ok (.iastore, 1) := by decide +kernel
theorem dX7_findEffects_40 : decode cX7_findEffects 40 = .ok (.iinc 1 1, 3) := by decide +kernel
theorem dX7_findEffects_43 : decode cX7_findEffects 43 = .ok (.goto (-37), 3) := by decide +kernel
theorem dX7_findEffects_46 : decode cX7_findEffects 46 = .ok (.aload_n 0, 1) := by decide +kernel
theorem dX7_findEffects_47 : decode cX7_findEffects 47 = .ok (.iconst 1, 1) := by decide +kernel
theorem dX7_findEffects_48 : decode cX7_findEffects 48 = .ok (.putfield 170, 3) := by decide +kernel
theorem dX7_findEffects_51 : decode cX7_findEffects 51 = .ok (.aload_n 0, 1) := by decide +kernel
theorem dX7_findEffects_52 : decode cX7_findEffects 52 = .ok (.getfield 170, 3) := by decide +kernel
theorem dX7_findEffects_55 : decode cX7_findEffects 55 = .ok (.ifCond .eq 37, 3) := by decide +kernel
theorem dX7_findEffects_58 : decode cX7_findEffects 58 = .ok (.aload_n 0, 1) := by decide +kernel
theorem dX7_findEffects_59 : decode cX7_findEffects 59 = .ok (.iconst 0, 1) := by decide +kernel
theorem dX7_findEffects_60 : decode cX7_findEffects 60 = .ok (.putfield 170, 3) := by decide +kernel
theorem dX7_findEffects_63 : decode cX7_findEffects 63 = .ok (.iconst 0, 1) := by decide +kernel
theorem dX7_findEffects_64 : decode cX7_findEffects 64 = .ok (.istore_n 1, 1) := by decide +kernel
theorem dX7_findEffects_65 : decode cX7_findEffects 65 = .ok (.iload_n 1, 1) := by decide +kernel
theorem dX7_findEffects_66 : decode cX7_findEffects 66 = .ok (.bipush 72, 2) := by decide +kernel
theorem dX7_findEffects_68 : decode cX7_findEffects 68 = .ok (.if_icmp .ge 21, 3) := by decide +kernel
theorem dX7_findEffects_71 : decode cX7_findEffects 71 = .ok (.aload_n 0, 1) := by decide +kernel
theorem dX7_findEffects_72 : decode cX7_findEffects 72 = .ok (.iload_n 1, 1) := by decide +kernel
theorem dX7_findEffects_73 : decode cX7_findEffects 73 = .ok (.bipush 12, 2) := by decide +kernel
theorem dX7_findEffects_75 : decode cX7_findEffects 75 = .ok (.idiv, 1) := by decide +kernel
theorem dX7_findEffects_76 : decode cX7_findEffects 76 = .ok (.iload_n 1, 1) := by decide +kernel
theorem dX7_findEffects_77 : decode cX7_findEffects 77 = .ok (.bipush 12, 2) := by decide +kernel
theorem dX7_findEffects_79 : decode cX7_findEffects 79 = .ok (.irem, 1) := by decide +kernel
theorem dX7_findEffects_80 : decode cX7_findEffects 80 = .ok (.invokevirtual 185, 3) := by decide +kernel
theorem dX7_findEffects_83 : decode cX7_findEffects 83 = .ok (.iinc 1 1, 3) := by decide +kernel
theorem dX7_findEffects_86 : decode cX7_findEffects 86 = .ok (.goto (-21), 3) := by decide +kernel
theorem dX7_findEffects_89 : decode cX7_findEffects 89 = .ok (.goto (-38), 3) := by decide +kernel
theorem dX7_findEffects_92 : decode cX7_findEffects 92 = .ok (.return_, 1) := by decide +kernel
theorem dX7_effect_0 : decode cX7_effect 0 = .ok (.iload_n 1, 1) := by decide +kernel
theorem dX7_effect_1 : decode cX7_effect 1 = .ok (.invokestatic 87, 3) := by decide +kernel
theorem dX7_effect_4 : decode cX7_effect 4 = .ok (.ifCond .ne 5, 3) := by decide +kernel
theorem dX7_effect_7 : decode cX7_effect 7 = .ok (.iconst (-1), 1) := by decide +kernel
theorem dX7_effect_8 : decode cX7_effect 8 = .ok (.ireturn, 1) := by decide +kernel
theorem dX7_effect_9 : decode cX7_effect 9 = .ok (.iload_n 2, 1) := by decide +kernel
theorem dX7_effect_10 : decode cX7_effect 10 = .ok (.invokestatic 189, 3) := by decide +kernel
theorem dX7_effect_13 : decode cX7_effect 13 = .ok (.ifCond .eq 15, 3) := by decide +kernel
theorem dX7_effect_16 : decode cX7_effect 16 = .ok (.iload_n 3, 1) := by decide +kernel
theorem dX7_effect_17 : decode cX7_effect 17 = .ok (.i2l, 1) := by decide +kernel
theorem dX7_effect_18 : decode cX7_effect 18 = .ok (.lconst 0, 1) := by decide +kernel
theorem dX7_effect_19 : decode cX7_effect 19 = .ok (.ldc2_w 192, 3) := by decide +kernel
theorem dX7_effect_22 : decode cX7_effect 22 = .ok (.invokestatic 79, 3) := by decide +kernel
theorem dX7_effect_25 : decode cX7_effect 25 = .ok (.ifCond .ne 6, 3) := by decide +kernel
theorem dX7_effect_28 : decode cX7_effect 28 = .ok (.bipush (-2), 2) := by decide +kernel
theorem dX7_effect_30 : decode cX7_effect 30 = .ok (.ireturn, 1) := by decide +kernel
theorem dX7_effect_31 : decode cX7_effect 31 = .ok (.aload_n 0, 1) := by decide +kernel
theorem dX7_effect_32 : decode cX7_effect 32 = .ok (.invokevirtual 194, 3) := by decide +kernel
theorem dX7_effect_35 : decode cX7_effect 35 = .ok (.aload_n 0, 1) := by decide +kernel
theorem dX7_effect_36 : decode cX7_effect 36 = .ok (.iload_n 1, 1) := by decide +kernel
theorem dX7_effect_37 : decode cX7_effect 37 = .ok (.invokevirtual 197, 3) := by decide +kernel
theorem dX7_effect_40 : decode cX7_effect 40 = .ok (.ifCond .ne 6, 3) := by decide +kernel
theorem dX7_effect_43 : decode cX7_effect 43 = .ok (.bipush (-5), 2) := by decide +kernel
theorem dX7_effect_45 : decode cX7_effect 45 = .ok (.ireturn, 1) := by decide +kernel
theorem dX7_effect_46 : decode cX7_effect 46 = .ok (.bipush 12, 2) := by decide +kernel
theorem dX7_effect_48 : decode cX7_effect 48 = .ok (.iload_n 1, 1) := by decide +kernel
theorem dX7_effect_49 : decode cX7_effect 49 = .ok (.imul, 1) := by decide +kernel
theorem dX7_effect_50 : decode cX7_effect 50 = .ok (.iload_n 2, 1) := by decide +kernel
theorem dX7_effect_51 : decode cX7_effect 51 = .ok (.iadd, 1) := by decide +kernel
theorem dX7_effect_52 : decode cX7_effect 52 = .ok (.istore 4, 2) := by decide +kernel
theorem dX7_effect_54 : decode cX7_effect 54 = .ok (.iload_n 3, 1) := by decide +kernel
theorem dX7_effect_55 : decode cX7_effect 55 = .ok (.ifCond .ne 13, 3) := by decide +kernel
theorem dX7_effect_58 : decode cX7_effect 58 = .ok (.aload_n 0, 1) := by decide +kernel
theorem dX7_effect_59 : decode cX7_effect 59 = .ok (.getfield 25, 3) := by decide +kernel
theorem dX7_effect_62 : decode cX7_effect 62 = .ok (.iload 4, 2) := by decide +kernel
theorem dX7_effect_64 : decode cX7_effect 64 = .ok (.iaload, 1) := by decide +kernel
theorem dX7_effect_65 : decode cX7_effect 65 = .ok (.goto 40, 3) := by decide +kernel
theorem dX7_effect_68 : decode cX7_effect 68 = .ok (.iload_n 3, 1) := by decide +kernel
theorem dX7_effect_69 : decode cX7_effect 69 = .ok (.iconst 1, 1) := by decide +kernel
theorem dX7_effect_70 : decode cX7_effect 70 = .ok (.if_icmp .ne 13, 3) := by decide +kernel
theorem dX7_effect_73 : decode cX7_effect 73 = .ok (.aload_n 0, 1) := by decide +kernel
theorem dX7_effect_74 : decode cX7_effect 74 = .ok (.getfield 28, 3) := by decide +kernel
theorem dX7_effect_77 : decode cX7_effect 77 = .ok (.iload 4, 2) := by decide +kernel
theorem dX7_effect_79 : decode cX7_effect 79 = .ok (.iaload, 1) := by decide +kernel
theorem dX7_effect_80 : decode cX7_effect 80 = .ok (.goto 25, 3) := by decide +kernel
theorem dX7_effect_83 : decode cX7_effect 83 = .ok (.iload_n 3, 1) := by decide +kernel
theorem dX7_effect_84 : decode cX7_effect 84 = .ok (.iconst 2, 1) := by decide +kernel
theorem dX7_effect_85 : decode cX7_effect 85 = .ok (.if_icmp .ne 13, 3) := by decide +kernel
theorem dX7_effect_88 : decode cX7_effect 88 = .ok (.aload_n 0, 1) := by decide +kernel
theorem dX7_effect_89 : decode cX7_effect 89 = .ok (.getfield 31, 3) := by decide +kernel
theorem dX7_effect_92 : decode cX7_effect 92 = .ok (.iload 4, 2) := by decide +kernel
theorem dX7_effect_94 : decode cX7_effect 94 = .ok (.iaload, 1) := by decide +kernel
theorem dX7_effect_95 : decode cX7_effect 95 = .ok (.goto 10, 3) := by decide +kernel
theorem dX7_effect_98 : decode cX7_effect 98 = .ok (.aload_n 0, 1) := by decide +kernel
theorem dX7_effect_99 : decode cX7_effect 99 = .ok (.getfield 34, 3) := by decide +kernel
theorem dX7_effect_102 : decode cX7_effect 102 = .ok (.iload 4, 2) := by decide +kernel
theorem dX7_effect_104 : decode cX7_effect 104 = .ok (.iaload, 1) := by decide +kernel
theorem dX7_effect_105 : decode cX7_effect 105 = .ok (.ireturn, 1) := by decide +kernel
theorem dX7_causesOf_0 : decode cX7_causesOf 0 = .ok (.aload_n 0, 1) := by decide +kernel
theorem dX7_causesOf_1 : decode cX7_causesOf 1 = .ok (.getfield 28, 3) := by decide +kernel
theorem dX7_causesOf_4 : decode cX7_causesOf 4 = .ok (.iload_n 1, 1) := by decide +kernel
theorem dX7_causesOf_5 : decode cX7_causesOf 5 = .ok (.iaload, 1) := by decide +kernel
theorem dX7_causesOf_6 : decode cX7_causesOf 6 = .ok (.aload_n 0, 1) := by decide +kernel
theorem dX7_causesOf_7 : decode cX7_causesOf 7 = .ok (.getfield 31, 3) := by decide +kernel
theorem dX7_causesOf_10 : decode cX7_causesOf 10 = .ok (.iload_n 1, 1) := by decide +kernel
theorem dX7_causesOf_11 : decode cX7_causesOf 11 = .ok (.iaload, 1) := by decide +kernel
theorem dX7_causesOf_12 : decode cX7_causesOf 12 = .ok (.ior, 1) := by decide +kernel
theorem dX7_causesOf_13 : decode cX7_causesOf 13 = .ok (.istore_n 3, 1) := by decide +kernel
theorem dX7_causesOf_14 : decode cX7_causesOf 14 = .ok (.aload_n 0, 1) := by decide +kernel
theorem dX7_causesOf_15 : decode cX7_causesOf 15 = .ok (.getfield 28, 3) := by decide +kernel
theorem dX7_causesOf_18 : decode cX7_causesOf 18 = .ok (.iload_n 2, 1) := by decide +kernel
theorem dX7_causesOf_19 : decode cX7_causesOf 19 = .ok (.iaload, 1) := by decide +kernel
theorem dX7_causesOf_20 : decode cX7_causesOf 20 = .ok (.aload_n 0, 1) := by decide +kernel
theorem dX7_causesOf_21 : decode cX7_causesOf 21 = .ok (.getfield 31, 3) := by decide +kernel
theorem dX7_causesOf_24 : decode cX7_causesOf 24 = .ok (.iload_n 2, 1) := by decide +kernel
theorem dX7_causesOf_25 : decode cX7_causesOf 25 = .ok (.iaload, 1) := by decide +kernel
theorem dX7_causesOf_26 : decode cX7_causesOf 26 = .ok (.ior, 1) := by decide +kernel
theorem dX7_causesOf_27 : decode cX7_causesOf 27 = .ok (.istore 4, 2) := by decide +kernel
theorem dX7_causesOf_29 : decode cX7_causesOf 29 = .ok (.aload_n 0, 1) := by decide +kernel
theorem dX7_causesOf_30 : decode cX7_causesOf 30 = .ok (.getfield 28, 3) := by decide +kernel
theorem dX7_causesOf_33 : decode cX7_causesOf 33 = .ok (.iload_n 1, 1) := by decide +kernel
theorem dX7_causesOf_34 : decode cX7_causesOf 34 = .ok (.iaload, 1) := by decide +kernel
theorem dX7_causesOf_35 : decode cX7_causesOf 35 = .ok (.iload 4, 2) := by decide +kernel
theorem dX7_causesOf_37 : decode cX7_causesOf 37 = .ok (.iand, 1) := by decide +kernel
theorem dX7_causesOf_38 : decode cX7_causesOf 38 = .ok (.ifCond .ne 14, 3) := by decide +kernel
theorem dX7_causesOf_41 : decode cX7_causesOf 41 = .ok (.aload_n 0, 1) := by decide +kernel
theorem dX7_causesOf_42 : decode cX7_causesOf 42 = .ok (.getfield 28, 3) := by decide +kernel
theorem dX7_causesOf_45 : decode cX7_causesOf 45 = .ok (.iload_n 2, 1) := by decide +kernel
theorem dX7_causesOf_46 : decode cX7_causesOf 46 = .ok (.iaload, 1) := by decide +kernel
theorem dX7_causesOf_47 : decode cX7_causesOf 47 = .ok (.iload_n 3, 1) := by decide +kernel
theorem dX7_causesOf_48 : decode cX7_causesOf 48 = .ok (.iand, 1) := by decide +kernel
theorem dX7_causesOf_49 : decode cX7_causesOf 49 = .ok (.ifCond .eq 7, 3) := by decide +kernel
theorem dX7_causesOf_52 : decode cX7_causesOf 52 = .ok (.iconst 1, 1) := by decide +kernel
theorem dX7_causesOf_53 : decode cX7_causesOf 53 = .ok (.goto 4, 3) := by decide +kernel
theorem dX7_causesOf_56 : decode cX7_causesOf 56 = .ok (.iconst 0, 1) := by decide +kernel
theorem dX7_causesOf_57 : decode cX7_causesOf 57 = .ok (.istore 5, 2) := by decide +kernel
theorem dX7_causesOf_59 : decode cX7_causesOf 59 = .ok (.iload 5, 2) := by decide +kernel
theorem dX7_causesOf_61 : decode cX7_causesOf 61 = .ok (.aload_n 0, 1) := by decide +kernel
theorem dX7_causesOf_62 : decode cX7_causesOf 62 = .ok (.getfield 25, 3) := by decide +kernel
theorem dX7_causesOf_65 : decode cX7_causesOf 65 = .ok (.iload_n 1, 1) := by decide +kernel
theorem dX7_causesOf_66 : decode cX7_causesOf 66 = .ok (.iaload, 1) := by decide +kernel
theorem dX7_causesOf_67 : decode cX7_causesOf 67 = .ok (.iload 4, 2) := by decide +kernel
theorem dX7_causesOf_69 : decode cX7_causesOf 69 = .ok (.iand, 1) := by decide +kernel
theorem dX7_causesOf_70 : decode cX7_causesOf 70 = .ok (.ifCond .ne 14, 3) := by decide +kernel
theorem dX7_causesOf_73 : decode cX7_causesOf 73 = .ok (.aload_n 0, 1) := by decide +kernel
theorem dX7_causesOf_74 : decode cX7_causesOf 74 = .ok (.getfield 25, 3) := by decide +kernel
theorem dX7_causesOf_77 : decode cX7_causesOf 77 = .ok (.iload_n 2, 1) := by decide +kernel
theorem dX7_causesOf_78 : decode cX7_causesOf 78 = .ok (.iaload, 1) := by decide +kernel
theorem dX7_causesOf_79 : decode cX7_causesOf 79 = .ok (.iload_n 3, 1) := by decide +kernel
theorem dX7_causesOf_80 : decode cX7_causesOf 80 = .ok (.iand, 1) := by decide +kernel
theorem dX7_causesOf_81 : decode cX7_causesOf 81 = .ok (.ifCond .eq 7, 3) := by decide +kernel
theorem dX7_causesOf_84 : decode cX7_causesOf 84 = .ok (.iconst 2, 1) := by decide +kernel
theorem dX7_causesOf_85 : decode cX7_causesOf 85 = .ok (.goto 4, 3) := by decide +kernel
theorem dX7_causesOf_88 : decode cX7_causesOf 88 = .ok (.iconst 0, 1) := by decide +kernel
theorem dX7_causesOf_89 : decode cX7_causesOf 89 = .ok (.ior, 1) := by decide +kernel
theorem dX7_causesOf_90 : decode cX7_causesOf 90 = .ok (.istore 5, 2) := by decide +kernel
theorem dX7_causesOf_92 : decode cX7_causesOf 92 = .ok (.iload 5, 2) := by decide +kernel
theorem dX7_causesOf_94 : decode cX7_causesOf 94 = .ok (.aload_n 0, 1) := by decide +kernel
theorem dX7_causesOf_95 : decode cX7_causesOf 95 = .ok (.getfield 34, 3) := by decide +kernel
theorem dX7_causesOf_98 : decode cX7_causesOf 98 = .ok (.iload_n 1, 1) := by decide +kernel
theorem dX7_causesOf_99 : decode cX7_causesOf 99 = .ok (.iaload, 1) := by decide +kernel
theorem dX7_causesOf_100 : decode cX7_causesOf 100 = .ok (.iconst 1, 1) := by decide +kernel
theorem dX7_causesOf_101 : decode cX7_causesOf 101 = .ok (.if_icmp .ne 17, 3) := by decide +kernel
theorem dX7_causesOf_104 : decode cX7_causesOf 104 = .ok (.aload_n 0, 1) := by decide +kernel
theorem dX7_causesOf_105 : decode cX7_causesOf 105 = .ok (.getfield 34, 3) := by decide +kernel
theorem dX7_causesOf_108 : decode cX7_causesOf 108 = .ok (.iload_n 2, 1) := by decide +kernel
theorem dX7_causesOf_109 : decode cX7_causesOf 109 = .ok (.iaload, 1) := by decide +kernel
theorem dX7_causesOf_110 : decode cX7_causesOf 110 = .ok (.iconst 1, 1) := by decide +kernel
theorem dX7_causesOf_111 : decode cX7_causesOf 111 = .ok (.if_icmp .ne 7, 3) := by decide +kernel
theorem dX7_causesOf_114 : decode cX7_causesOf 114 = .ok (.iconst 4, 1) := by decide +kernel
theorem dX7_causesOf_115 : decode cX7_causesOf 115 = .ok (.goto 4, 3) := by decide +kernel
theorem dX7_causesOf_118 : decode cX7_causesOf 118 = .ok (.iconst 0, 1) := by decide +kernel
theorem dX7_causesOf_119 : decode cX7_causesOf 119 = .ok (.ior, 1) := by decide +kernel
theorem dX7_causesOf_120 : decode cX7_causesOf 120 = .ok (.ireturn, 1) := by decide +kernel
theorem dX7_causes_0 : decode cX7_causes 0 = .ok (.iload_n 1, 1) := by decide +kernel
theorem dX7_causes_1 : decode cX7_causes 1 = .ok (.invokestatic 87, 3) := by decide +kernel
theorem dX7_causes_4 : decode cX7_causes 4 = .ok (.ifCond .eq 10, 3) := by decide +kernel
theorem dX7_causes_7 : decode cX7_causes 7 = .ok (.iload_n 3, 1) := by decide +kernel
theorem dX7_causes_8 : decode cX7_causes 8 = .ok (.invokestatic 87, 3) := by decide +kernel
theorem dX7_causes_11 : decode cX7_causes 11 = .ok (.ifCond .ne 5, 3) := by decide +kernel
theorem dX7_causes_14 : decode cX7_causes 14 = .ok (.iconst (-1), 1) := by decide +kernel
theorem dX7_causes_15 : decode cX7_causes 15 = .ok (.ireturn, 1) := by decide +kernel
theorem dX7_causes_16 : decode cX7_causes 16 = .ok (.iload_n 2, 1) := by decide +kernel
theorem dX7_causes_17 : decode cX7_causes 17 = .ok (.invokestatic 189, 3) := by decide +kernel
theorem dX7_causes_20 : decode cX7_causes 20 = .ok (.ifCond .eq 11, 3) := by decide +kernel
theorem dX7_causes_23 : decode cX7_causes 23 = .ok (.iload 4, 2) := by decide +kernel
theorem dX7_causes_25 : decode cX7_causes 25 = .ok (.invokestatic 189, 3) := by decide +kernel
theorem dX7_causes_28 : decode cX7_causes 28 = .ok (.ifCond .ne 6, 3) := by decide +kernel
theorem dX7_causes_31 : decode cX7_causes 31 = .ok (.bipush (-2), 2) := by decide +kernel
theorem dX7_causes_33 : decode cX7_causes 33 = .ok (.ireturn, 1) := by decide +kernel
theorem dX7_causes_34 : decode cX7_causes 34 = .ok (.aload_n 0, 1) := by decide +kernel
theorem dX7_causes_35 : decode cX7_causes 35 = .ok (.invokevirtual 194, 3) := by decide +kernel
theorem dX7_causes_38 : decode cX7_causes 38 = .ok (.aload_n 0, 1) := by decide +kernel
theorem dX7_causes_39 : decode cX7_causes 39 = .ok (.iload_n 1, 1) := by decide +kernel
theorem dX7_causes_40 : decode cX7_causes 40 = .ok (.invokevirtual 197, 3) := by decide +kernel
theorem dX7_causes_43 : decode cX7_causes 43 = .ok (.ifCond .eq 31, 3) := by decide +kernel
theorem dX7_causes_46 : decode cX7_causes 46 = .ok (.aload_n 0, 1) := by decide +kernel
theorem dX7_causes_47 : decode cX7_causes 47 = .ok (.iload_n 3, 1) := by decide +kernel
theorem dX7_causes_48 : decode cX7_causes 48 = .ok (.invokevirtual 197, 3) := by decide +kernel
theorem dX7_causes_51 : decode cX7_causes 51 = .ok (.ifCond .eq 23, 3) := by decide +kernel
theorem dX7_causes_54 : decode cX7_causes 54 = .ok (.aload_n 0, 1) := by decide +kernel
theorem dX7_causes_55 : decode cX7_causes 55 = .ok (.bipush 12, 2) := by decide +kernel
theorem dX7_causes_57 : decode cX7_causes 57 = .ok (.iload_n 1, 1) := by decide +kernel
theorem dX7_causes_58 : decode cX7_causes 58 = .ok (.imul, 1) := by decide +kernel
theorem dX7_causes_59 : decode cX7_causes 59 = .ok (.iload_n 2, 1) := by decide +kernel
theorem dX7_causes_60 : decode cX7_causes 60 = .ok (.iadd, 1) := by decide +kernel
theorem dX7_causes_61 : decode cX7_causes 61 = .ok (.bipush 12, 2) := by decide +kernel
theorem dX7_causes_63 : decode cX7_causes 63 = .ok (.iload_n 3, 1) := by decide +kernel
theorem dX7_causes_64 : decode cX7_causes 64 = .ok (.imul, 1) := by decide +kernel
theorem dX7_causes_65 : decode cX7_causes 65 = .ok (.iload 4, 2) := by decide +kernel
theorem dX7_causes_67 : decode cX7_causes 67 = .ok (.iadd, 1) := by decide +kernel
theorem dX7_causes_68 : decode cX7_causes 68 = .ok (.invokevirtual 200, 3) := by decide +kernel
theorem dX7_causes_71 : decode cX7_causes 71 = .ok (.goto 5, 3) := by decide +kernel
theorem dX7_causes_74 : decode cX7_causes 74 = .ok (.bipush (-5), 2) := by decide +kernel
theorem dX7_causes_76 : decode cX7_causes 76 = .ok (.ireturn, 1) := by decide +kernel
theorem dX7_call_0 : decode cX7_call 0 = .ok (.iload_n 1, 1) := by decide +kernel
theorem dX7_call_1 : decode cX7_call 1 = .ok (.invokestatic 87, 3) := by decide +kernel
theorem dX7_call_4 : decode cX7_call 4 = .ok (.ifCond .ne 5, 3) := by decide +kernel
theorem dX7_call_7 : decode cX7_call 7 = .ok (.iconst (-1), 1) := by decide +kernel
theorem dX7_call_8 : decode cX7_call 8 = .ok (.ireturn, 1) := by decide +kernel
theorem dX7_call_9 : decode cX7_call 9 = .ok (.iload_n 2, 1) := by decide +kernel
theorem dX7_call_10 : decode cX7_call 10 = .ok (.invokestatic 189, 3) := by decide +kernel
theorem dX7_call_13 : decode cX7_call 13 = .ok (.ifCond .ne 6, 3) := by decide +kernel
theorem dX7_call_16 : decode cX7_call 16 = .ok (.bipush (-2), 2) := by decide +kernel
theorem dX7_call_18 : decode cX7_call 18 = .ok (.ireturn, 1) := by decide +kernel
theorem dX7_call_19 : decode cX7_call 19 = .ok (.aload_n 0, 1) := by decide +kernel
theorem dX7_call_20 : decode cX7_call 20 = .ok (.getfield 203, 3) := by decide +kernel
theorem dX7_call_23 : decode cX7_call 23 = .ok (.bipush 16, 2) := by decide +kernel
theorem dX7_call_25 : decode cX7_call 25 = .ok (.if_icmp .ne 6, 3) := by decide +kernel
theorem dX7_call_28 : decode cX7_call 28 = .ok (.bipush (-4), 2) := by decide +kernel
theorem dX7_call_30 : decode cX7_call 30 = .ok (.ireturn, 1) := by decide +kernel
theorem dX7_call_31 : decode cX7_call 31 = .ok (.aload_n 0, 1) := by decide +kernel
theorem dX7_call_32 : decode cX7_call 32 = .ok (.getfield 19, 3) := by decide +kernel
theorem dX7_call_35 : decode cX7_call 35 = .ok (.aload_n 0, 1) := by decide +kernel
theorem dX7_call_36 : decode cX7_call 36 = .ok (.getfield 203, 3) := by decide +kernel
theorem dX7_call_39 : decode cX7_call 39 = .ok (.iload_n 1, 1) := by decide +kernel
theorem dX7_call_40 : decode cX7_call 40 = .ok (.iastore, 1) := by decide +kernel
theorem dX7_call_41 : decode cX7_call 41 = .ok (.aload_n 0, 1) := by decide +kernel
theorem dX7_call_42 : decode cX7_call 42 = .ok (.getfield 22, 3) := by decide +kernel
theorem dX7_call_45 : decode cX7_call 45 = .ok (.aload_n 0, 1) := by decide +kernel
theorem dX7_call_46 : decode cX7_call 46 = .ok (.getfield 203, 3) := by decide +kernel
theorem dX7_call_49 : decode cX7_call 49 = .ok (.iload_n 2, 1) := by decide +kernel
theorem dX7_call_50 : decode cX7_call 50 = .ok (.iastore, 1) := by decide +kernel
theorem dX7_call_51 : decode cX7_call 51 = .ok (.aload_n 0, 1) := by decide +kernel
theorem dX7_call_52 : decode cX7_call 52 = .ok (.dup, 1) := by decide +kernel
theorem dX7_call_53 : decode cX7_call 53 = .ok (.getfield 203, 3) := by decide +kernel
theorem dX7_call_56 : decode cX7_call 56 = .ok (.iconst 1, 1) := by decide +kernel
theorem dX7_call_57 : decode cX7_call 57 = .ok (.iadd, 1) := by decide +kernel
theorem dX7_call_58 : decode cX7_call 58 = .ok (.putfield 203, 3) := by decide +kernel
theorem dX7_call_61 : decode cX7_call 61 = .ok (.aload_n 0, 1) := by decide +kernel
theorem dX7_call_62 : decode cX7_call 62 = .ok (.getfield 203, 3) := by decide +kernel
theorem dX7_call_65 : decode cX7_call 65 = .ok (.ireturn, 1) := by decide +kernel
theorem dX7_isCall_0 : decode cX7_isCall 0 = .ok (.iload_n 1, 1) := by decide +kernel
theorem dX7_isCall_1 : decode cX7_isCall 1 = .ok (.i2l, 1) := by decide +kernel
theorem dX7_isCall_2 : decode cX7_isCall 2 = .ok (.lconst 0, 1) := by decide +kernel
theorem dX7_isCall_3 : decode cX7_isCall 3 = .ok (.aload_n 0, 1) := by decide +kernel
theorem dX7_isCall_4 : decode cX7_isCall 4 = .ok (.getfield 203, 3) := by decide +kernel
theorem dX7_isCall_7 : decode cX7_isCall 7 = .ok (.iconst 1, 1) := by decide +kernel
theorem dX7_isCall_8 : decode cX7_isCall 8 = .ok (.isub, 1) := by decide +kernel
theorem dX7_isCall_9 : decode cX7_isCall 9 = .ok (.i2l, 1) := by decide +kernel
theorem dX7_isCall_10 : decode cX7_isCall 10 = .ok (.invokestatic 79, 3) := by decide +kernel
theorem dX7_isCall_13 : decode cX7_isCall 13 = .ok (.ireturn, 1) := by decide +kernel
theorem dX7_drop_0 : decode cX7_drop 0 = .ok (.aload_n 0, 1) := by decide +kernel
theorem dX7_drop_1 : decode cX7_drop 1 = .ok (.iload_n 1, 1) := by decide +kernel
theorem dX7_drop_2 : decode cX7_drop 2 = .ok (.invokevirtual 206, 3) := by decide +kernel
theorem dX7_drop_5 : decode cX7_drop 5 = .ok (.ifCond .ne 5, 3) := by decide +kernel
theorem dX7_drop_8 : decode cX7_drop 8 = .ok (.iconst (-1), 1) := by decide +kernel
theorem dX7_drop_9 : decode cX7_drop 9 = .ok (.ireturn, 1) := by decide +kernel
theorem dX7_drop_10 : decode cX7_drop 10 = .ok (.aload_n 0, 1) := by decide +kernel
theorem dX7_drop_11 : decode cX7_drop 11 = .ok (.dup, 1) := by decide +kernel
theorem dX7_drop_12 : decode cX7_drop 12 = .ok (.getfield 203, 3) := by decide +kernel
theorem dX7_drop_15 : decode cX7_drop 15 = .ok (.iconst 1, 1) := by decide +kernel
theorem dX7_drop_16 : decode cX7_drop 16 = .ok (.isub, 1) := by decide +kernel
theorem dX7_drop_17 : decode cX7_drop 17 = .ok (.putfield 203, 3) := by decide +kernel
theorem dX7_drop_20 : decode cX7_drop 20 = .ok (.iload_n 1, 1) := by decide +kernel
theorem dX7_drop_21 : decode cX7_drop 21 = .ok (.istore_n 2, 1) := by decide +kernel
theorem dX7_drop_22 : decode cX7_drop 22 = .ok (.iload_n 2, 1) := by decide +kernel
theorem dX7_drop_23 : decode cX7_drop 23 = .ok (.aload_n 0, 1) := by decide +kernel
theorem dX7_drop_24 : decode cX7_drop 24 = .ok (.getfield 203, 3) := by decide +kernel
theorem dX7_drop_27 : decode cX7_drop 27 = .ok (.if_icmp .ge 37, 3) := by decide +kernel
theorem dX7_drop_30 : decode cX7_drop 30 = .ok (.aload_n 0, 1) := by decide +kernel
theorem dX7_drop_31 : decode cX7_drop 31 = .ok (.getfield 19, 3) := by decide +kernel
theorem dX7_drop_34 : decode cX7_drop 34 = .ok (.iload_n 2, 1) := by decide +kernel
theorem dX7_drop_35 : decode cX7_drop 35 = .ok (.aload_n 0, 1) := by decide +kernel
theorem dX7_drop_36 : decode cX7_drop 36 = .ok (.getfield 19, 3) := by decide +kernel
theorem dX7_drop_39 : decode cX7_drop 39 = .ok (.iload_n 2, 1) := by decide +kernel
theorem dX7_drop_40 : decode cX7_drop 40 = .ok (.iconst 1, 1) := by decide +kernel
theorem dX7_drop_41 : decode cX7_drop 41 = .ok (.iadd, 1) := by decide +kernel
theorem dX7_drop_42 : decode cX7_drop 42 = .ok (.iaload, 1) := by decide +kernel
theorem dX7_drop_43 : decode cX7_drop 43 = .ok (.iastore, 1) := by decide +kernel
theorem dX7_drop_44 : decode cX7_drop 44 = .ok (.aload_n 0, 1) := by decide +kernel
theorem dX7_drop_45 : decode cX7_drop 45 = .ok (.getfield 22, 3) := by decide +kernel
theorem dX7_drop_48 : decode cX7_drop 48 = .ok (.iload_n 2, 1) := by decide +kernel
theorem dX7_drop_49 : decode cX7_drop 49 = .ok (.aload_n 0, 1) := by decide +kernel
theorem dX7_drop_50 : decode cX7_drop 50 = .ok (.getfield 22, 3) := by decide +kernel
theorem dX7_drop_53 : decode cX7_drop 53 = .ok (.iload_n 2, 1) := by decide +kernel
theorem dX7_drop_54 : decode cX7_drop 54 = .ok (.iconst 1, 1) := by decide +kernel
theorem dX7_drop_55 : decode cX7_drop 55 = .ok (.iadd, 1) := by decide +kernel
theorem dX7_drop_56 : decode cX7_drop 56 = .ok (.iaload, 1) := by decide +kernel
theorem dX7_drop_57 : decode cX7_drop 57 = .ok (.iastore, 1) := by decide +kernel
theorem dX7_drop_58 : decode cX7_drop 58 = .ok (.iinc 2 1, 3) := by decide +kernel
theorem dX7_drop_61 : decode cX7_drop 61 = .ok (.goto (-39), 3) := by decide +kernel
theorem dX7_drop_64 : decode cX7_drop 64 = .ok (.aload_n 0, 1) := by decide +kernel
theorem dX7_drop_65 : decode cX7_drop 65 = .ok (.getfield 203, 3) := by decide +kernel
theorem dX7_drop_68 : decode cX7_drop 68 = .ok (.ireturn, 1) := by decide +kernel
theorem dX7_effectOf_0 : decode cX7_effectOf 0 = .ok (.bipush 12, 2) := by decide +kernel
theorem dX7_effectOf_2 : decode cX7_effectOf 2 = .ok (.aload_n 0, 1) := by decide +kernel
theorem dX7_effectOf_3 : decode cX7_effectOf 3 = .ok (.getfield 19, 3) := by decide +kernel
theorem dX7_effectOf_6 : decode cX7_effectOf 6 = .ok (.iload_n 1, 1) := by decide +kernel
theorem dX7_effectOf_7 : decode cX7_effectOf 7 = .ok (.iaload, 1) := by decide +kernel
theorem dX7_effectOf_8 : decode cX7_effectOf 8 = .ok (.imul, 1) := by decide +kernel
theorem dX7_effectOf_9 : decode cX7_effectOf 9 = .ok (.aload_n 0, 1) := by decide +kernel
theorem dX7_effectOf_10 : decode cX7_effectOf 10 = .ok (.getfield 22, 3) := by decide +kernel
theorem dX7_effectOf_13 : decode cX7_effectOf 13 = .ok (.iload_n 1, 1) := by decide +kernel
theorem dX7_effectOf_14 : decode cX7_effectOf 14 = .ok (.iaload, 1) := by decide +kernel
theorem dX7_effectOf_15 : decode cX7_effectOf 15 = .ok (.iadd, 1) := by decide +kernel
theorem dX7_effectOf_16 : decode cX7_effectOf 16 = .ok (.ireturn, 1) := by decide +kernel
theorem dX7_turn_0 : decode cX7_turn 0 = .ok (.aload_n 0, 1) := by decide +kernel
theorem dX7_turn_1 : decode cX7_turn 1 = .ok (.iload_n 1, 1) := by decide +kernel
theorem dX7_turn_2 : decode cX7_turn 2 = .ok (.iaload, 1) := by decide +kernel
theorem dX7_turn_3 : decode cX7_turn 3 = .ok (.istore_n 2, 1) := by decide +kernel
theorem dX7_turn_4 : decode cX7_turn 4 = .ok (.aload_n 0, 1) := by decide +kernel
theorem dX7_turn_5 : decode cX7_turn 5 = .ok (.iload_n 1, 1) := by decide +kernel
theorem dX7_turn_6 : decode cX7_turn 6 = .ok (.aload_n 0, 1) := by decide +kernel
theorem dX7_turn_7 : decode cX7_turn 7 = .ok (.iload_n 1, 1) := by decide +kernel
theorem dX7_turn_8 : decode cX7_turn 8 = .ok (.iconst 1, 1) := by decide +kernel
theorem dX7_turn_9 : decode cX7_turn 9 = .ok (.iadd, 1) := by decide +kernel
theorem dX7_turn_10 : decode cX7_turn 10 = .ok (.iaload, 1) := by decide +kernel
theorem dX7_turn_11 : decode cX7_turn 11 = .ok (.iastore, 1) := by decide +kernel
theorem dX7_turn_12 : decode cX7_turn 12 = .ok (.aload_n 0, 1) := by decide +kernel
theorem dX7_turn_13 : decode cX7_turn 13 = .ok (.iload_n 1, 1) := by decide +kernel
theorem dX7_turn_14 : decode cX7_turn 14 = .ok (.iconst 1, 1) := by decide +kernel
theorem dX7_turn_15 : decode cX7_turn 15 = .ok (.iadd, 1) := by decide +kernel
theorem dX7_turn_16 : decode cX7_turn 16 = .ok (.iload_n 2, 1) := by decide +kernel
theorem dX7_turn_17 : decode cX7_turn 17 = .ok (.iastore, 1) := by decide +kernel
theorem dX7_turn_18 : decode cX7_turn 18 = .ok (.return_, 1) := by decide +kernel
theorem dX7_swap_0 : decode cX7_swap 0 = .ok (.aload_n 0, 1) := by decide +kernel
theorem dX7_swap_1 : decode cX7_swap 1 = .ok (.iload_n 1, 1) := by decide +kernel
theorem dX7_swap_2 : decode cX7_swap 2 = .ok (.invokevirtual 206, 3) := by decide +kernel
theorem dX7_swap_5 : decode cX7_swap 5 = .ok (.ifCond .eq 13, 3) := by decide +kernel
theorem dX7_swap_8 : decode cX7_swap 8 = .ok (.aload_n 0, 1) := by decide +kernel
theorem dX7_swap_9 : decode cX7_swap 9 = .ok (.iload_n 1, 1) := by decide +kernel
theorem dX7_swap_10 : decode cX7_swap 10 = .ok (.iconst 1, 1) := by decide +kernel
theorem dX7_swap_11 : decode cX7_swap 11 = .ok (.iadd, 1) := by decide +kernel
theorem dX7_swap_12 : decode cX7_swap 12 = .ok (.invokevirtual 206, 3) := by decide +kernel
theorem dX7_swap_15 : decode cX7_swap 15 = .ok (.ifCond .ne 5, 3) := by decide +kernel
theorem dX7_swap_18 : decode cX7_swap 18 = .ok (.iconst (-1), 1) := by decide +kernel
theorem dX7_swap_19 : decode cX7_swap 19 = .ok (.ireturn, 1) := by decide +kernel
theorem dX7_swap_20 : decode cX7_swap 20 = .ok (.aload_n 0, 1) := by decide +kernel
theorem dX7_swap_21 : decode cX7_swap 21 = .ok (.invokevirtual 194, 3) := by decide +kernel
theorem dX7_swap_24 : decode cX7_swap 24 = .ok (.aload_n 0, 1) := by decide +kernel
theorem dX7_swap_25 : decode cX7_swap 25 = .ok (.aload_n 0, 1) := by decide +kernel
theorem dX7_swap_26 : decode cX7_swap 26 = .ok (.getfield 19, 3) := by decide +kernel
theorem dX7_swap_29 : decode cX7_swap 29 = .ok (.iload_n 1, 1) := by decide +kernel
theorem dX7_swap_30 : decode cX7_swap 30 = .ok (.iaload, 1) := by decide +kernel
theorem dX7_swap_31 : decode cX7_swap 31 = .ok (.invokevirtual 197, 3) := by decide +kernel
theorem dX7_swap_34 : decode cX7_swap 34 = .ok (.ifCond .eq 18, 3) := by decide +kernel
theorem dX7_swap_37 : decode cX7_swap 37 = .ok (.aload_n 0, 1) := by decide +kernel
theorem dX7_swap_38 : decode cX7_swap 38 = .ok (.aload_n 0, 1) := by decide +kernel
theorem dX7_swap_39 : decode cX7_swap 39 = .ok (.getfield 19, 3) := by decide +kernel
theorem dX7_swap_42 : decode cX7_swap 42 = .ok (.iload_n 1, 1) := by decide +kernel
theorem dX7_swap_43 : decode cX7_swap 43 = .ok (.iconst 1, 1) := by decide +kernel
theorem dX7_swap_44 : decode cX7_swap 44 = .ok (.iadd, 1) := by decide +kernel
theorem dX7_swap_45 : decode cX7_swap 45 = .ok (.iaload, 1) := by decide +kernel
theorem dX7_swap_46 : decode cX7_swap 46 = .ok (.invokevirtual 197, 3) := by decide +kernel
theorem dX7_swap_49 : decode cX7_swap 49 = .ok (.ifCond .ne 6, 3) := by decide +kernel
theorem dX7_swap_52 : decode cX7_swap 52 = .ok (.bipush (-5), 2) := by decide +kernel
theorem dX7_swap_54 : decode cX7_swap 54 = .ok (.ireturn, 1) := by decide +kernel
theorem dX7_swap_55 : decode cX7_swap 55 = .ok (.aload_n 0, 1) := by decide +kernel
theorem dX7_swap_56 : decode cX7_swap 56 = .ok (.aload_n 0, 1) := by decide +kernel
theorem dX7_swap_57 : decode cX7_swap 57 = .ok (.iload_n 1, 1) := by decide +kernel
theorem dX7_swap_58 : decode cX7_swap 58 = .ok (.invokevirtual 209, 3) := by decide +kernel
theorem dX7_swap_61 : decode cX7_swap 61 = .ok (.aload_n 0, 1) := by decide +kernel
theorem dX7_swap_62 : decode cX7_swap 62 = .ok (.iload_n 1, 1) := by decide +kernel
theorem dX7_swap_63 : decode cX7_swap 63 = .ok (.iconst 1, 1) := by decide +kernel
theorem dX7_swap_64 : decode cX7_swap 64 = .ok (.iadd, 1) := by decide +kernel
theorem dX7_swap_65 : decode cX7_swap 65 = .ok (.invokevirtual 209, 3) := by decide +kernel
theorem dX7_swap_68 : decode cX7_swap 68 = .ok (.invokevirtual 200, 3) := by decide +kernel
theorem dX7_swap_71 : decode cX7_swap 71 = .ok (.ifCond .eq 6, 3) := by decide +kernel
theorem dX7_swap_74 : decode cX7_swap 74 = .ok (.bipush (-3), 2) := by decide +kernel
theorem dX7_swap_76 : decode cX7_swap 76 = .ok (.ireturn, 1) := by decide +kernel
theorem dX7_swap_77 : decode cX7_swap 77 = .ok (.aload_n 0, 1) := by decide +kernel
theorem dX7_swap_78 : decode cX7_swap 78 = .ok (.getfield 19, 3) := by decide +kernel
theorem dX7_swap_81 : decode cX7_swap 81 = .ok (.iload_n 1, 1) := by decide +kernel
theorem dX7_swap_82 : decode cX7_swap 82 = .ok (.invokestatic 212, 3) := by decide +kernel
theorem dX7_swap_85 : decode cX7_swap 85 = .ok (.aload_n 0, 1) := by decide +kernel
theorem dX7_swap_86 : decode cX7_swap 86 = .ok (.getfield 22, 3) := by decide +kernel
theorem dX7_swap_89 : decode cX7_swap 89 = .ok (.iload_n 1, 1) := by decide +kernel
theorem dX7_swap_90 : decode cX7_swap 90 = .ok (.invokestatic 212, 3) := by decide +kernel
theorem dX7_swap_93 : decode cX7_swap 93 = .ok (.iconst 1, 1) := by decide +kernel
theorem dX7_swap_94 : decode cX7_swap 94 = .ok (.ireturn, 1) := by decide +kernel
theorem dX7_isAllKnown_0 : decode cX7_isAllKnown 0 = .ok (.iconst 1, 1) := by decide +kernel
theorem dX7_isAllKnown_1 : decode cX7_isAllKnown 1 = .ok (.istore_n 1, 1) := by decide +kernel
theorem dX7_isAllKnown_2 : decode cX7_isAllKnown 2 = .ok (.iconst 0, 1) := by decide +kernel
theorem dX7_isAllKnown_3 : decode cX7_isAllKnown 3 = .ok (.istore_n 2, 1) := by decide +kernel
theorem dX7_isAllKnown_4 : decode cX7_isAllKnown 4 = .ok (.iload_n 2, 1) := by decide +kernel
theorem dX7_isAllKnown_5 : decode cX7_isAllKnown 5 = .ok (.aload_n 0, 1) := by decide +kernel
theorem dX7_isAllKnown_6 : decode cX7_isAllKnown 6 = .ok (.getfield 203, 3) := by decide +kernel
theorem dX7_isAllKnown_9 : decode cX7_isAllKnown 9 = .ok (.if_icmp .ge 32, 3) := by decide +kernel
theorem dX7_isAllKnown_12 : decode cX7_isAllKnown 12 = .ok (.iload_n 1, 1) := by decide +kernel
theorem dX7_isAllKnown_13 : decode cX7_isAllKnown 13 = .ok (.ifCond .eq 20, 3) := by decide +kernel
theorem dX7_isAllKnown_16 : decode cX7_isAllKnown 16 = .ok (.aload_n 0, 1) := by decide +kernel
theorem dX7_isAllKnown_17 : decode cX7_isAllKnown 17 = .ok (.aload_n 0, 1) := by decide +kernel
theorem dX7_isAllKnown_18 : decode cX7_isAllKnown 18 = .ok (.getfield 19, 3) := by decide +kernel
theorem dX7_isAllKnown_21 : decode cX7_isAllKnown 21 = .ok (.iload_n 2, 1) := by decide +kernel
theorem dX7_isAllKnown_22 : decode cX7_isAllKnown 22 = .ok (.iaload, 1) := by decide +kernel
theorem dX7_isAllKnown_23 : decode cX7_isAllKnown 23 = .ok (.invokevirtual 197, 3) := by decide +kernel
theorem dX7_isAllKnown_26 : decode cX7_isAllKnown 26 = .ok (.ifCond .eq 7, 3) := by decide +kernel
theorem dX7_isAllKnown_29 : decode cX7_isAllKnown 29 = .ok (.iconst 1, 1) := by decide +kernel
theorem dX7_isAllKnown_30 : decode cX7_isAllKnown 30 = .ok (.goto 4, 3) := by decide +kernel
theorem dX7_isAllKnown_33 : decode cX7_isAllKnown 33 = .ok (.iconst 0, 1) := by decide +kernel
theorem dX7_isAllKnown_34 : decode cX7_isAllKnown 34 = .ok (.istore_n 1, 1) := by decide +kernel
theorem dX7_isAllKnown_35 : decode cX7_isAllKnown 35 = .ok (.iinc 2 1, 3) := by decide +kernel
theorem dX7_isAllKnown_38 : decode cX7_isAllKnown 38 = .ok (.goto (-34), 3) := by decide +kernel
theorem dX7_isAllKnown_41 : decode cX7_isAllKnown 41 = .ok (.iload_n 1, 1) := by decide +kernel
theorem dX7_isAllKnown_42 : decode cX7_isAllKnown 42 = .ok (.ireturn, 1) := by decide +kernel
theorem dX7_isAhead_0 : decode cX7_isAhead 0 = .ok (.aload_n 0, 1) := by decide +kernel
theorem dX7_isAhead_1 : decode cX7_isAhead 1 = .ok (.getfield 43, 3) := by decide +kernel
theorem dX7_isAhead_4 : decode cX7_isAhead 4 = .ok (.iload_n 1, 1) := by decide +kernel
theorem dX7_isAhead_5 : decode cX7_isAhead 5 = .ok (.iaload, 1) := by decide +kernel
theorem dX7_isAhead_6 : decode cX7_isAhead 6 = .ok (.aload_n 0, 1) := by decide +kernel
theorem dX7_isAhead_7 : decode cX7_isAhead 7 = .ok (.getfield 43, 3) := by decide +kernel
end
section
theorem dX7_isAhead_10 : decode cX7_isAhead 10 = .ok (.iload_n 2, 1) := by decide +kernel
theorem dX7_isAhead_11 : decode cX7_isAhead 11 = .ok (.iaload, 1) := by decide +kernel
theorem dX7_isAhead_12 : decode cX7_isAhead 12 = .ok (.if_icmp .eq 24, 3) := by decide +kernel
theorem dX7_isAhead_15 : decode cX7_isAhead 15 = .ok (.aload_n 0, 1) := by decide +kernel
theorem dX7_isAhead_16 : decode cX7_isAhead 16 = .ok (.getfield 43, 3) := by decide +kernel
theorem dX7_isAhead_19 : decode cX7_isAhead 19 = .ok (.iload_n 1, 1) := by decide +kernel
theorem dX7_isAhead_20 : decode cX7_isAhead 20 = .ok (.iaload, 1) := by decide +kernel
theorem dX7_isAhead_21 : decode cX7_isAhead 21 = .ok (.aload_n 0, 1) := by decide +kernel
theorem dX7_isAhead_22 : decode cX7_isAhead 22 = .ok (.getfield 43, 3) := by decide +kernel
theorem dX7_isAhead_25 : decode cX7_isAhead 25 = .ok (.iload_n 2, 1) := by decide +kernel
theorem dX7_isAhead_26 : decode cX7_isAhead 26 = .ok (.iaload, 1) := by decide +kernel
theorem dX7_isAhead_27 : decode cX7_isAhead 27 = .ok (.if_icmp .ge 7, 3) := by decide +kernel
theorem dX7_isAhead_30 : decode cX7_isAhead 30 = .ok (.iconst 1, 1) := by decide +kernel
theorem dX7_isAhead_31 : decode cX7_isAhead 31 = .ok (.goto 4, 3) := by decide +kernel
theorem dX7_isAhead_34 : decode cX7_isAhead 34 = .ok (.iconst 0, 1) := by decide +kernel
theorem dX7_isAhead_35 : decode cX7_isAhead 35 = .ok (.ireturn, 1) := by decide +kernel
theorem dX7_isAhead_36 : decode cX7_isAhead 36 = .ok (.aload_n 0, 1) := by decide +kernel
theorem dX7_isAhead_37 : decode cX7_isAhead 37 = .ok (.getfield 19, 3) := by decide +kernel
theorem dX7_isAhead_40 : decode cX7_isAhead 40 = .ok (.iload_n 1, 1) := by decide +kernel
theorem dX7_isAhead_41 : decode cX7_isAhead 41 = .ok (.iaload, 1) := by decide +kernel
theorem dX7_isAhead_42 : decode cX7_isAhead 42 = .ok (.aload_n 0, 1) := by decide +kernel
theorem dX7_isAhead_43 : decode cX7_isAhead 43 = .ok (.getfield 19, 3) := by decide +kernel
theorem dX7_isAhead_46 : decode cX7_isAhead 46 = .ok (.iload_n 2, 1) := by decide +kernel
theorem dX7_isAhead_47 : decode cX7_isAhead 47 = .ok (.iaload, 1) := by decide +kernel
theorem dX7_isAhead_48 : decode cX7_isAhead 48 = .ok (.if_icmp .eq 24, 3) := by decide +kernel
theorem dX7_isAhead_51 : decode cX7_isAhead 51 = .ok (.aload_n 0, 1) := by decide +kernel
theorem dX7_isAhead_52 : decode cX7_isAhead 52 = .ok (.getfield 19, 3) := by decide +kernel
theorem dX7_isAhead_55 : decode cX7_isAhead 55 = .ok (.iload_n 1, 1) := by decide +kernel
theorem dX7_isAhead_56 : decode cX7_isAhead 56 = .ok (.iaload, 1) := by decide +kernel
theorem dX7_isAhead_57 : decode cX7_isAhead 57 = .ok (.aload_n 0, 1) := by decide +kernel
theorem dX7_isAhead_58 : decode cX7_isAhead 58 = .ok (.getfield 19, 3) := by decide +kernel
theorem dX7_isAhead_61 : decode cX7_isAhead 61 = .ok (.iload_n 2, 1) := by decide +kernel
theorem dX7_isAhead_62 : decode cX7_isAhead 62 = .ok (.iaload, 1) := by decide +kernel
theorem dX7_isAhead_63 : decode cX7_isAhead 63 = .ok (.if_icmp .ge 7, 3) := by decide +kernel
theorem dX7_isAhead_66 : decode cX7_isAhead 66 = .ok (.iconst 1, 1) := by decide +kernel
theorem dX7_isAhead_67 : decode cX7_isAhead 67 = .ok (.goto 4, 3) := by decide +kernel
theorem dX7_isAhead_70 : decode cX7_isAhead 70 = .ok (.iconst 0, 1) := by decide +kernel
theorem dX7_isAhead_71 : decode cX7_isAhead 71 = .ok (.ireturn, 1) := by decide +kernel
theorem dX7_isAhead_72 : decode cX7_isAhead 72 = .ok (.aload_n 0, 1) := by decide +kernel
theorem dX7_isAhead_73 : decode cX7_isAhead 73 = .ok (.getfield 22, 3) := by decide +kernel
theorem dX7_isAhead_76 : decode cX7_isAhead 76 = .ok (.iload_n 1, 1) := by decide +kernel
theorem dX7_isAhead_77 : decode cX7_isAhead 77 = .ok (.iaload, 1) := by decide +kernel
theorem dX7_isAhead_78 : decode cX7_isAhead 78 = .ok (.aload_n 0, 1) := by decide +kernel
theorem dX7_isAhead_79 : decode cX7_isAhead 79 = .ok (.getfield 22, 3) := by decide +kernel
theorem dX7_isAhead_82 : decode cX7_isAhead 82 = .ok (.iload_n 2, 1) := by decide +kernel
theorem dX7_isAhead_83 : decode cX7_isAhead 83 = .ok (.iaload, 1) := by decide +kernel
theorem dX7_isAhead_84 : decode cX7_isAhead 84 = .ok (.if_icmp .eq 26, 3) := by decide +kernel
theorem dX7_isAhead_87 : decode cX7_isAhead 87 = .ok (.aload_n 0, 1) := by decide +kernel
theorem dX7_isAhead_88 : decode cX7_isAhead 88 = .ok (.getfield 22, 3) := by decide +kernel
theorem dX7_isAhead_91 : decode cX7_isAhead 91 = .ok (.iload_n 1, 1) := by decide +kernel
theorem dX7_isAhead_92 : decode cX7_isAhead 92 = .ok (.iaload, 1) := by decide +kernel
theorem dX7_isAhead_93 : decode cX7_isAhead 93 = .ok (.aload_n 0, 1) := by decide +kernel
theorem dX7_isAhead_94 : decode cX7_isAhead 94 = .ok (.getfield 22, 3) := by decide +kernel
theorem dX7_isAhead_97 : decode cX7_isAhead 97 = .ok (.iload_n 2, 1) := by decide +kernel
theorem dX7_isAhead_98 : decode cX7_isAhead 98 = .ok (.iaload, 1) := by decide +kernel
theorem dX7_isAhead_99 : decode cX7_isAhead 99 = .ok (.if_icmp .ge 7, 3) := by decide +kernel
theorem dX7_isAhead_102 : decode cX7_isAhead 102 = .ok (.iconst 1, 1) := by decide +kernel
theorem dX7_isAhead_103 : decode cX7_isAhead 103 = .ok (.goto 17, 3) := by decide +kernel
theorem dX7_isAhead_106 : decode cX7_isAhead 106 = .ok (.iconst 0, 1) := by decide +kernel
theorem dX7_isAhead_107 : decode cX7_isAhead 107 = .ok (.goto 13, 3) := by decide +kernel
theorem dX7_isAhead_110 : decode cX7_isAhead 110 = .ok (.iload_n 1, 1) := by decide +kernel
theorem dX7_isAhead_111 : decode cX7_isAhead 111 = .ok (.iload_n 2, 1) := by decide +kernel
theorem dX7_isAhead_112 : decode cX7_isAhead 112 = .ok (.if_icmp .ge 7, 3) := by decide +kernel
theorem dX7_isAhead_115 : decode cX7_isAhead 115 = .ok (.iconst 1, 1) := by decide +kernel
theorem dX7_isAhead_116 : decode cX7_isAhead 116 = .ok (.goto 4, 3) := by decide +kernel
theorem dX7_isAhead_119 : decode cX7_isAhead 119 = .ok (.iconst 0, 1) := by decide +kernel
theorem dX7_isAhead_120 : decode cX7_isAhead 120 = .ok (.ireturn, 1) := by decide +kernel
theorem dX7_findStages_0 : decode cX7_findStages 0 = .ok (.iconst 0, 1) := by decide +kernel
theorem dX7_findStages_1 : decode cX7_findStages 1 = .ok (.istore_n 1, 1) := by decide +kernel
theorem dX7_findStages_2 : decode cX7_findStages 2 = .ok (.iload_n 1, 1) := by decide +kernel
theorem dX7_findStages_3 : decode cX7_findStages 3 = .ok (.aload_n 0, 1) := by decide +kernel
theorem dX7_findStages_4 : decode cX7_findStages 4 = .ok (.getfield 203, 3) := by decide +kernel
theorem dX7_findStages_7 : decode cX7_findStages 7 = .ok (.if_icmp .ge 94, 3) := by decide +kernel
theorem dX7_findStages_10 : decode cX7_findStages 10 = .ok (.aload_n 0, 1) := by decide +kernel
theorem dX7_findStages_11 : decode cX7_findStages 11 = .ok (.getfield 43, 3) := by decide +kernel
theorem dX7_findStages_14 : decode cX7_findStages 14 = .ok (.iload_n 1, 1) := by decide +kernel
theorem dX7_findStages_15 : decode cX7_findStages 15 = .ok (.iconst 0, 1) := by decide +kernel
theorem dX7_findStages_16 : decode cX7_findStages 16 = .ok (.iastore, 1) := by decide +kernel
theorem dX7_findStages_17 : decode cX7_findStages 17 = .ok (.iconst 0, 1) := by decide +kernel
theorem dX7_findStages_18 : decode cX7_findStages 18 = .ok (.istore_n 2, 1) := by decide +kernel
theorem dX7_findStages_19 : decode cX7_findStages 19 = .ok (.iload_n 2, 1) := by decide +kernel
theorem dX7_findStages_20 : decode cX7_findStages 20 = .ok (.iload_n 1, 1) := by decide +kernel
theorem dX7_findStages_21 : decode cX7_findStages 21 = .ok (.if_icmp .ge 74, 3) := by decide +kernel
theorem dX7_findStages_24 : decode cX7_findStages 24 = .ok (.aload_n 0, 1) := by decide +kernel
theorem dX7_findStages_25 : decode cX7_findStages 25 = .ok (.aload_n 0, 1) := by decide +kernel
theorem dX7_findStages_26 : decode cX7_findStages 26 = .ok (.iload_n 2, 1) := by decide +kernel
theorem dX7_findStages_27 : decode cX7_findStages 27 = .ok (.invokevirtual 209, 3) := by decide +kernel
theorem dX7_findStages_30 : decode cX7_findStages 30 = .ok (.aload_n 0, 1) := by decide +kernel
theorem dX7_findStages_31 : decode cX7_findStages 31 = .ok (.iload_n 1, 1) := by decide +kernel
theorem dX7_findStages_32 : decode cX7_findStages 32 = .ok (.invokevirtual 209, 3) := by decide +kernel
theorem dX7_findStages_35 : decode cX7_findStages 35 = .ok (.invokevirtual 200, 3) := by decide +kernel
theorem dX7_findStages_38 : decode cX7_findStages 38 = .ok (.ifCond .eq 7, 3) := by decide +kernel
theorem dX7_findStages_41 : decode cX7_findStages 41 = .ok (.iconst 1, 1) := by decide +kernel
theorem dX7_findStages_42 : decode cX7_findStages 42 = .ok (.goto 4, 3) := by decide +kernel
theorem dX7_findStages_45 : decode cX7_findStages 45 = .ok (.iconst 0, 1) := by decide +kernel
theorem dX7_findStages_46 : decode cX7_findStages 46 = .ok (.istore_n 3, 1) := by decide +kernel
theorem dX7_findStages_47 : decode cX7_findStages 47 = .ok (.aload_n 0, 1) := by decide +kernel
theorem dX7_findStages_48 : decode cX7_findStages 48 = .ok (.getfield 43, 3) := by decide +kernel
theorem dX7_findStages_51 : decode cX7_findStages 51 = .ok (.iload_n 1, 1) := by decide +kernel
theorem dX7_findStages_52 : decode cX7_findStages 52 = .ok (.iload_n 3, 1) := by decide +kernel
theorem dX7_findStages_53 : decode cX7_findStages 53 = .ok (.ifCond .eq 29, 3) := by decide +kernel
theorem dX7_findStages_56 : decode cX7_findStages 56 = .ok (.aload_n 0, 1) := by decide +kernel
theorem dX7_findStages_57 : decode cX7_findStages 57 = .ok (.getfield 43, 3) := by decide +kernel
theorem dX7_findStages_60 : decode cX7_findStages 60 = .ok (.iload_n 2, 1) := by decide +kernel
theorem dX7_findStages_61 : decode cX7_findStages 61 = .ok (.iaload, 1) := by decide +kernel
theorem dX7_findStages_62 : decode cX7_findStages 62 = .ok (.aload_n 0, 1) := by decide +kernel
theorem dX7_findStages_63 : decode cX7_findStages 63 = .ok (.getfield 43, 3) := by decide +kernel
theorem dX7_findStages_66 : decode cX7_findStages 66 = .ok (.iload_n 1, 1) := by decide +kernel
theorem dX7_findStages_67 : decode cX7_findStages 67 = .ok (.iaload, 1) := by decide +kernel
theorem dX7_findStages_68 : decode cX7_findStages 68 = .ok (.if_icmp .lt 14, 3) := by decide +kernel
theorem dX7_findStages_71 : decode cX7_findStages 71 = .ok (.aload_n 0, 1) := by decide +kernel
theorem dX7_findStages_72 : decode cX7_findStages 72 = .ok (.getfield 43, 3) := by decide +kernel
theorem dX7_findStages_75 : decode cX7_findStages 75 = .ok (.iload_n 2, 1) := by decide +kernel
theorem dX7_findStages_76 : decode cX7_findStages 76 = .ok (.iaload, 1) := by decide +kernel
theorem dX7_findStages_77 : decode cX7_findStages 77 = .ok (.iconst 1, 1) := by decide +kernel
theorem dX7_findStages_78 : decode cX7_findStages 78 = .ok (.iadd, 1) := by decide +kernel
theorem dX7_findStages_79 : decode cX7_findStages 79 = .ok (.goto 9, 3) := by decide +kernel
theorem dX7_findStages_82 : decode cX7_findStages 82 = .ok (.aload_n 0, 1) := by decide +kernel
theorem dX7_findStages_83 : decode cX7_findStages 83 = .ok (.getfield 43, 3) := by decide +kernel
theorem dX7_findStages_86 : decode cX7_findStages 86 = .ok (.iload_n 1, 1) := by decide +kernel
theorem dX7_findStages_87 : decode cX7_findStages 87 = .ok (.iaload, 1) := by decide +kernel
theorem dX7_findStages_88 : decode cX7_findStages 88 = .ok (.iastore, 1) := by decide +kernel
theorem dX7_findStages_89 : decode cX7_findStages 89 = .ok (.iinc 2 1, 3) := by decide +kernel
theorem dX7_findStages_92 : decode cX7_findStages 92 = .ok (.goto (-73), 3) := by decide +kernel
theorem dX7_findStages_95 : decode cX7_findStages 95 = .ok (.iinc 1 1, 3) := by decide +kernel
theorem dX7_findStages_98 : decode cX7_findStages 98 = .ok (.goto (-96), 3) := by decide +kernel
theorem dX7_findStages_101 : decode cX7_findStages 101 = .ok (.iconst 0, 1) := by decide +kernel
theorem dX7_findStages_102 : decode cX7_findStages 102 = .ok (.istore_n 1, 1) := by decide +kernel
theorem dX7_findStages_103 : decode cX7_findStages 103 = .ok (.iload_n 1, 1) := by decide +kernel
theorem dX7_findStages_104 : decode cX7_findStages 104 = .ok (.aload_n 0, 1) := by decide +kernel
theorem dX7_findStages_105 : decode cX7_findStages 105 = .ok (.getfield 203, 3) := by decide +kernel
theorem dX7_findStages_108 : decode cX7_findStages 108 = .ok (.if_icmp .ge 55, 3) := by decide +kernel
theorem dX7_findStages_111 : decode cX7_findStages 111 = .ok (.aload_n 0, 1) := by decide +kernel
theorem dX7_findStages_112 : decode cX7_findStages 112 = .ok (.getfield 46, 3) := by decide +kernel
theorem dX7_findStages_115 : decode cX7_findStages 115 = .ok (.iload_n 1, 1) := by decide +kernel
theorem dX7_findStages_116 : decode cX7_findStages 116 = .ok (.iconst 0, 1) := by decide +kernel
theorem dX7_findStages_117 : decode cX7_findStages 117 = .ok (.iastore, 1) := by decide +kernel
theorem dX7_findStages_118 : decode cX7_findStages 118 = .ok (.iconst 0, 1) := by decide +kernel
theorem dX7_findStages_119 : decode cX7_findStages 119 = .ok (.istore_n 2, 1) := by decide +kernel
theorem dX7_findStages_120 : decode cX7_findStages 120 = .ok (.iload_n 2, 1) := by decide +kernel
theorem dX7_findStages_121 : decode cX7_findStages 121 = .ok (.aload_n 0, 1) := by decide +kernel
theorem dX7_findStages_122 : decode cX7_findStages 122 = .ok (.getfield 203, 3) := by decide +kernel
theorem dX7_findStages_125 : decode cX7_findStages 125 = .ok (.if_icmp .ge 32, 3) := by decide +kernel
theorem dX7_findStages_128 : decode cX7_findStages 128 = .ok (.aload_n 0, 1) := by decide +kernel
theorem dX7_findStages_129 : decode cX7_findStages 129 = .ok (.getfield 46, 3) := by decide +kernel
theorem dX7_findStages_132 : decode cX7_findStages 132 = .ok (.iload_n 1, 1) := by decide +kernel
theorem dX7_findStages_133 : decode cX7_findStages 133 = .ok (.dup2, 1) := by decide +kernel
theorem dX7_findStages_134 : decode cX7_findStages 134 = .ok (.iaload, 1) := by decide +kernel
theorem dX7_findStages_135 : decode cX7_findStages 135 = .ok (.aload_n 0, 1) := by decide +kernel
theorem dX7_findStages_136 : decode cX7_findStages 136 = .ok (.iload_n 2, 1) := by decide +kernel
theorem dX7_findStages_137 : decode cX7_findStages 137 = .ok (.iload_n 1, 1) := by decide +kernel
theorem dX7_findStages_138 : decode cX7_findStages 138 = .ok (.invokevirtual 216, 3) := by decide +kernel
theorem dX7_findStages_141 : decode cX7_findStages 141 = .ok (.ifCond .eq 7, 3) := by decide +kernel
theorem dX7_findStages_144 : decode cX7_findStages 144 = .ok (.iconst 1, 1) := by decide +kernel
theorem dX7_findStages_145 : decode cX7_findStages 145 = .ok (.goto 4, 3) := by decide +kernel
theorem dX7_findStages_148 : decode cX7_findStages 148 = .ok (.iconst 0, 1) := by decide +kernel
theorem dX7_findStages_149 : decode cX7_findStages 149 = .ok (.iadd, 1) := by decide +kernel
theorem dX7_findStages_150 : decode cX7_findStages 150 = .ok (.iastore, 1) := by decide +kernel
theorem dX7_findStages_151 : decode cX7_findStages 151 = .ok (.iinc 2 1, 3) := by decide +kernel
theorem dX7_findStages_154 : decode cX7_findStages 154 = .ok (.goto (-34), 3) := by decide +kernel
theorem dX7_findStages_157 : decode cX7_findStages 157 = .ok (.iinc 1 1, 3) := by decide +kernel
theorem dX7_findStages_160 : decode cX7_findStages 160 = .ok (.goto (-57), 3) := by decide +kernel
theorem dX7_findStages_163 : decode cX7_findStages 163 = .ok (.return_, 1) := by decide +kernel
theorem dX7_isFound_0 : decode cX7_isFound 0 = .ok (.aload_n 0, 1) := by decide +kernel
theorem dX7_isFound_1 : decode cX7_isFound 1 = .ok (.invokevirtual 194, 3) := by decide +kernel
theorem dX7_isFound_4 : decode cX7_isFound 4 = .ok (.aload_n 0, 1) := by decide +kernel
theorem dX7_isFound_5 : decode cX7_isFound 5 = .ok (.invokevirtual 220, 3) := by decide +kernel
theorem dX7_isFound_8 : decode cX7_isFound 8 = .ok (.ifCond .ne 5, 3) := by decide +kernel
theorem dX7_isFound_11 : decode cX7_isFound 11 = .ok (.iconst 0, 1) := by decide +kernel
theorem dX7_isFound_12 : decode cX7_isFound 12 = .ok (.ireturn, 1) := by decide +kernel
theorem dX7_isFound_13 : decode cX7_isFound 13 = .ok (.aload_n 0, 1) := by decide +kernel
theorem dX7_isFound_14 : decode cX7_isFound 14 = .ok (.invokevirtual 223, 3) := by decide +kernel
theorem dX7_isFound_17 : decode cX7_isFound 17 = .ok (.iconst 1, 1) := by decide +kernel
theorem dX7_isFound_18 : decode cX7_isFound 18 = .ok (.ireturn, 1) := by decide +kernel
theorem dX7_told_0 : decode cX7_told 0 = .ok (.aload_n 0, 1) := by decide +kernel
theorem dX7_told_1 : decode cX7_told 1 = .ok (.iload_n 1, 1) := by decide +kernel
theorem dX7_told_2 : decode cX7_told 2 = .ok (.invokevirtual 206, 3) := by decide +kernel
theorem dX7_told_5 : decode cX7_told 5 = .ok (.ifCond .ne 5, 3) := by decide +kernel
theorem dX7_told_8 : decode cX7_told 8 = .ok (.iconst (-1), 1) := by decide +kernel
theorem dX7_told_9 : decode cX7_told 9 = .ok (.ireturn, 1) := by decide +kernel
theorem dX7_told_10 : decode cX7_told 10 = .ok (.iload_n 2, 1) := by decide +kernel
theorem dX7_told_11 : decode cX7_told 11 = .ok (.i2l, 1) := by decide +kernel
theorem dX7_told_12 : decode cX7_told 12 = .ok (.lconst 0, 1) := by decide +kernel
theorem dX7_told_13 : decode cX7_told 13 = .ok (.ldc2_w 192, 3) := by decide +kernel
theorem dX7_told_16 : decode cX7_told 16 = .ok (.invokestatic 79, 3) := by decide +kernel
theorem dX7_told_19 : decode cX7_told 19 = .ok (.ifCond .ne 6, 3) := by decide +kernel
theorem dX7_told_22 : decode cX7_told 22 = .ok (.bipush (-2), 2) := by decide +kernel
theorem dX7_told_24 : decode cX7_told 24 = .ok (.ireturn, 1) := by decide +kernel
theorem dX7_told_25 : decode cX7_told 25 = .ok (.iload_n 2, 1) := by decide +kernel
theorem dX7_told_26 : decode cX7_told 26 = .ok (.iconst 2, 1) := by decide +kernel
theorem dX7_told_27 : decode cX7_told 27 = .ok (.if_icmp .ge 23, 3) := by decide +kernel
theorem dX7_told_30 : decode cX7_told 30 = .ok (.iload_n 2, 1) := by decide +kernel
theorem dX7_told_31 : decode cX7_told 31 = .ok (.ifCond .ne 12, 3) := by decide +kernel
theorem dX7_told_34 : decode cX7_told 34 = .ok (.aload_n 0, 1) := by decide +kernel
theorem dX7_told_35 : decode cX7_told 35 = .ok (.getfield 19, 3) := by decide +kernel
theorem dX7_told_38 : decode cX7_told 38 = .ok (.iload_n 1, 1) := by decide +kernel
theorem dX7_told_39 : decode cX7_told 39 = .ok (.iaload, 1) := by decide +kernel
theorem dX7_told_40 : decode cX7_told 40 = .ok (.goto 9, 3) := by decide +kernel
theorem dX7_told_43 : decode cX7_told 43 = .ok (.aload_n 0, 1) := by decide +kernel
theorem dX7_told_44 : decode cX7_told 44 = .ok (.getfield 22, 3) := by decide +kernel
theorem dX7_told_47 : decode cX7_told 47 = .ok (.iload_n 1, 1) := by decide +kernel
theorem dX7_told_48 : decode cX7_told 48 = .ok (.iaload, 1) := by decide +kernel
theorem dX7_told_49 : decode cX7_told 49 = .ok (.ireturn, 1) := by decide +kernel
theorem dX7_told_50 : decode cX7_told 50 = .ok (.aload_n 0, 1) := by decide +kernel
theorem dX7_told_51 : decode cX7_told 51 = .ok (.invokevirtual 226, 3) := by decide +kernel
theorem dX7_told_54 : decode cX7_told 54 = .ok (.ifCond .ne 8, 3) := by decide +kernel
theorem dX7_told_57 : decode cX7_told 57 = .ok (.bipush (-5), 2) := by decide +kernel
theorem dX7_told_59 : decode cX7_told 59 = .ok (.goto 23, 3) := by decide +kernel
theorem dX7_told_62 : decode cX7_told 62 = .ok (.iload_n 2, 1) := by decide +kernel
theorem dX7_told_63 : decode cX7_told 63 = .ok (.iconst 2, 1) := by decide +kernel
theorem dX7_told_64 : decode cX7_told 64 = .ok (.if_icmp .ne 12, 3) := by decide +kernel
theorem dX7_told_67 : decode cX7_told 67 = .ok (.aload_n 0, 1) := by decide +kernel
theorem dX7_told_68 : decode cX7_told 68 = .ok (.getfield 43, 3) := by decide +kernel
theorem dX7_told_71 : decode cX7_told 71 = .ok (.iload_n 1, 1) := by decide +kernel
theorem dX7_told_72 : decode cX7_told 72 = .ok (.iaload, 1) := by decide +kernel
theorem dX7_told_73 : decode cX7_told 73 = .ok (.goto 9, 3) := by decide +kernel
theorem dX7_told_76 : decode cX7_told 76 = .ok (.aload_n 0, 1) := by decide +kernel
theorem dX7_told_77 : decode cX7_told 77 = .ok (.getfield 46, 3) := by decide +kernel
theorem dX7_told_80 : decode cX7_told 80 = .ok (.iload_n 1, 1) := by decide +kernel
theorem dX7_told_81 : decode cX7_told 81 = .ok (.iaload, 1) := by decide +kernel
theorem dX7_told_82 : decode cX7_told 82 = .ok (.ireturn, 1) := by decide +kernel
theorem dX7_stageMany_0 : decode cX7_stageMany 0 = .ok (.iconst 0, 1) := by decide +kernel
theorem dX7_stageMany_1 : decode cX7_stageMany 1 = .ok (.istore_n 1, 1) := by decide +kernel
theorem dX7_stageMany_2 : decode cX7_stageMany 2 = .ok (.iconst 0, 1) := by decide +kernel
theorem dX7_stageMany_3 : decode cX7_stageMany 3 = .ok (.istore_n 2, 1) := by decide +kernel
theorem dX7_stageMany_4 : decode cX7_stageMany 4 = .ok (.iload_n 2, 1) := by decide +kernel
theorem dX7_stageMany_5 : decode cX7_stageMany 5 = .ok (.aload_n 0, 1) := by decide +kernel
theorem dX7_stageMany_6 : decode cX7_stageMany 6 = .ok (.getfield 203, 3) := by decide +kernel
theorem dX7_stageMany_9 : decode cX7_stageMany 9 = .ok (.if_icmp .ge 32, 3) := by decide +kernel
theorem dX7_stageMany_12 : decode cX7_stageMany 12 = .ok (.aload_n 0, 1) := by decide +kernel
theorem dX7_stageMany_13 : decode cX7_stageMany 13 = .ok (.getfield 43, 3) := by decide +kernel
theorem dX7_stageMany_16 : decode cX7_stageMany 16 = .ok (.iload_n 2, 1) := by decide +kernel
theorem dX7_stageMany_17 : decode cX7_stageMany 17 = .ok (.iaload, 1) := by decide +kernel
theorem dX7_stageMany_18 : decode cX7_stageMany 18 = .ok (.iload_n 1, 1) := by decide +kernel
theorem dX7_stageMany_19 : decode cX7_stageMany 19 = .ok (.if_icmp .lt 14, 3) := by decide +kernel
theorem dX7_stageMany_22 : decode cX7_stageMany 22 = .ok (.aload_n 0, 1) := by decide +kernel
theorem dX7_stageMany_23 : decode cX7_stageMany 23 = .ok (.getfield 43, 3) := by decide +kernel
theorem dX7_stageMany_26 : decode cX7_stageMany 26 = .ok (.iload_n 2, 1) := by decide +kernel
theorem dX7_stageMany_27 : decode cX7_stageMany 27 = .ok (.iaload, 1) := by decide +kernel
theorem dX7_stageMany_28 : decode cX7_stageMany 28 = .ok (.iconst 1, 1) := by decide +kernel
theorem dX7_stageMany_29 : decode cX7_stageMany 29 = .ok (.iadd, 1) := by decide +kernel
theorem dX7_stageMany_30 : decode cX7_stageMany 30 = .ok (.goto 4, 3) := by decide +kernel
theorem dX7_stageMany_33 : decode cX7_stageMany 33 = .ok (.iload_n 1, 1) := by decide +kernel
theorem dX7_stageMany_34 : decode cX7_stageMany 34 = .ok (.istore_n 1, 1) := by decide +kernel
theorem dX7_stageMany_35 : decode cX7_stageMany 35 = .ok (.iinc 2 1, 3) := by decide +kernel
theorem dX7_stageMany_38 : decode cX7_stageMany 38 = .ok (.goto (-34), 3) := by decide +kernel
theorem dX7_stageMany_41 : decode cX7_stageMany 41 = .ok (.iload_n 1, 1) := by decide +kernel
theorem dX7_stageMany_42 : decode cX7_stageMany 42 = .ok (.ireturn, 1) := by decide +kernel
theorem dX7_callsAt_0 : decode cX7_callsAt 0 = .ok (.iconst 0, 1) := by decide +kernel
theorem dX7_callsAt_1 : decode cX7_callsAt 1 = .ok (.istore_n 2, 1) := by decide +kernel
theorem dX7_callsAt_2 : decode cX7_callsAt 2 = .ok (.iconst 0, 1) := by decide +kernel
theorem dX7_callsAt_3 : decode cX7_callsAt 3 = .ok (.istore_n 3, 1) := by decide +kernel
theorem dX7_callsAt_4 : decode cX7_callsAt 4 = .ok (.iload_n 3, 1) := by decide +kernel
theorem dX7_callsAt_5 : decode cX7_callsAt 5 = .ok (.aload_n 0, 1) := by decide +kernel
theorem dX7_callsAt_6 : decode cX7_callsAt 6 = .ok (.getfield 203, 3) := by decide +kernel
theorem dX7_callsAt_9 : decode cX7_callsAt 9 = .ok (.if_icmp .ge 27, 3) := by decide +kernel
theorem dX7_callsAt_12 : decode cX7_callsAt 12 = .ok (.iload_n 2, 1) := by decide +kernel
theorem dX7_callsAt_13 : decode cX7_callsAt 13 = .ok (.aload_n 0, 1) := by decide +kernel
theorem dX7_callsAt_14 : decode cX7_callsAt 14 = .ok (.getfield 43, 3) := by decide +kernel
theorem dX7_callsAt_17 : decode cX7_callsAt 17 = .ok (.iload_n 3, 1) := by decide +kernel
theorem dX7_callsAt_18 : decode cX7_callsAt 18 = .ok (.iaload, 1) := by decide +kernel
theorem dX7_callsAt_19 : decode cX7_callsAt 19 = .ok (.iload_n 1, 1) := by decide +kernel
theorem dX7_callsAt_20 : decode cX7_callsAt 20 = .ok (.if_icmp .ne 7, 3) := by decide +kernel
theorem dX7_callsAt_23 : decode cX7_callsAt 23 = .ok (.iconst 1, 1) := by decide +kernel
theorem dX7_callsAt_24 : decode cX7_callsAt 24 = .ok (.goto 4, 3) := by decide +kernel
theorem dX7_callsAt_27 : decode cX7_callsAt 27 = .ok (.iconst 0, 1) := by decide +kernel
theorem dX7_callsAt_28 : decode cX7_callsAt 28 = .ok (.iadd, 1) := by decide +kernel
theorem dX7_callsAt_29 : decode cX7_callsAt 29 = .ok (.istore_n 2, 1) := by decide +kernel
theorem dX7_callsAt_30 : decode cX7_callsAt 30 = .ok (.iinc 3 1, 3) := by decide +kernel
theorem dX7_callsAt_33 : decode cX7_callsAt 33 = .ok (.goto (-29), 3) := by decide +kernel
theorem dX7_callsAt_36 : decode cX7_callsAt 36 = .ok (.iload_n 2, 1) := by decide +kernel
theorem dX7_callsAt_37 : decode cX7_callsAt 37 = .ok (.ireturn, 1) := by decide +kernel
theorem dX7_widest_0 : decode cX7_widest 0 = .ok (.bipush (-6), 2) := by decide +kernel
theorem dX7_widest_2 : decode cX7_widest 2 = .ok (.istore_n 1, 1) := by decide +kernel
theorem dX7_widest_3 : decode cX7_widest 3 = .ok (.iconst 0, 1) := by decide +kernel
theorem dX7_widest_4 : decode cX7_widest 4 = .ok (.istore_n 2, 1) := by decide +kernel
theorem dX7_widest_5 : decode cX7_widest 5 = .ok (.iload_n 2, 1) := by decide +kernel
theorem dX7_widest_6 : decode cX7_widest 6 = .ok (.aload_n 0, 1) := by decide +kernel
theorem dX7_widest_7 : decode cX7_widest 7 = .ok (.invokevirtual 229, 3) := by decide +kernel
theorem dX7_widest_10 : decode cX7_widest 10 = .ok (.if_icmp .ge 32, 3) := by decide +kernel
theorem dX7_widest_13 : decode cX7_widest 13 = .ok (.iload_n 1, 1) := by decide +kernel
theorem dX7_widest_14 : decode cX7_widest 14 = .ok (.ifCond .lt 16, 3) := by decide +kernel
theorem dX7_widest_17 : decode cX7_widest 17 = .ok (.aload_n 0, 1) := by decide +kernel
theorem dX7_widest_18 : decode cX7_widest 18 = .ok (.iload_n 2, 1) := by decide +kernel
theorem dX7_widest_19 : decode cX7_widest 19 = .ok (.invokevirtual 232, 3) := by decide +kernel
theorem dX7_widest_22 : decode cX7_widest 22 = .ok (.aload_n 0, 1) := by decide +kernel
theorem dX7_widest_23 : decode cX7_widest 23 = .ok (.iload_n 1, 1) := by decide +kernel
theorem dX7_widest_24 : decode cX7_widest 24 = .ok (.invokevirtual 232, 3) := by decide +kernel
theorem dX7_widest_27 : decode cX7_widest 27 = .ok (.if_icmp .le 7, 3) := by decide +kernel
theorem dX7_widest_30 : decode cX7_widest 30 = .ok (.iload_n 2, 1) := by decide +kernel
theorem dX7_widest_31 : decode cX7_widest 31 = .ok (.goto 4, 3) := by decide +kernel
theorem dX7_widest_34 : decode cX7_widest 34 = .ok (.iload_n 1, 1) := by decide +kernel
theorem dX7_widest_35 : decode cX7_widest 35 = .ok (.istore_n 1, 1) := by decide +kernel
theorem dX7_widest_36 : decode cX7_widest 36 = .ok (.iinc 2 1, 3) := by decide +kernel
theorem dX7_widest_39 : decode cX7_widest 39 = .ok (.goto (-34), 3) := by decide +kernel
theorem dX7_widest_42 : decode cX7_widest 42 = .ok (.iload_n 1, 1) := by decide +kernel
theorem dX7_widest_43 : decode cX7_widest 43 = .ok (.ireturn, 1) := by decide +kernel
theorem dX7_single_0 : decode cX7_single 0 = .ok (.iconst 0, 1) := by decide +kernel
theorem dX7_single_1 : decode cX7_single 1 = .ok (.istore_n 2, 1) := by decide +kernel
theorem dX7_single_2 : decode cX7_single 2 = .ok (.iload_n 0, 1) := by decide +kernel
theorem dX7_single_3 : decode cX7_single 3 = .ok (.iload_n 1, 1) := by decide +kernel
theorem dX7_single_4 : decode cX7_single 4 = .ok (.iload_n 2, 1) := by decide +kernel
theorem dX7_single_5 : decode cX7_single 5 = .ok (.iconst 1, 1) := by decide +kernel
theorem dX7_single_6 : decode cX7_single 6 = .ok (.iadd, 1) := by decide +kernel
theorem dX7_single_7 : decode cX7_single 7 = .ok (.ishl, 1) := by decide +kernel
theorem dX7_single_8 : decode cX7_single 8 = .ok (.if_icmp .lt 9, 3) := by decide +kernel
theorem dX7_single_11 : decode cX7_single 11 = .ok (.iinc 2 1, 3) := by decide +kernel
theorem dX7_single_14 : decode cX7_single 14 = .ok (.goto (-12), 3) := by decide +kernel
theorem dX7_single_17 : decode cX7_single 17 = .ok (.iload_n 0, 1) := by decide +kernel
theorem dX7_single_18 : decode cX7_single 18 = .ok (.bipush 23, 2) := by decide +kernel
theorem dX7_single_20 : decode cX7_single 20 = .ok (.iload_n 2, 1) := by decide +kernel
theorem dX7_single_21 : decode cX7_single 21 = .ok (.isub, 1) := by decide +kernel
theorem dX7_single_22 : decode cX7_single 22 = .ok (.ishl, 1) := by decide +kernel
theorem dX7_single_23 : decode cX7_single 23 = .ok (.istore_n 3, 1) := by decide +kernel
theorem dX7_single_24 : decode cX7_single 24 = .ok (.iload_n 3, 1) := by decide +kernel
theorem dX7_single_25 : decode cX7_single 25 = .ok (.iload_n 1, 1) := by decide +kernel
theorem dX7_single_26 : decode cX7_single 26 = .ok (.idiv, 1) := by decide +kernel
theorem dX7_single_27 : decode cX7_single 27 = .ok (.istore 4, 2) := by decide +kernel
theorem dX7_single_29 : decode cX7_single 29 = .ok (.iload_n 3, 1) := by decide +kernel
theorem dX7_single_30 : decode cX7_single 30 = .ok (.iload_n 1, 1) := by decide +kernel
theorem dX7_single_31 : decode cX7_single 31 = .ok (.irem, 1) := by decide +kernel
theorem dX7_single_32 : decode cX7_single 32 = .ok (.istore 5, 2) := by decide +kernel
theorem dX7_single_34 : decode cX7_single 34 = .ok (.iload 4, 2) := by decide +kernel
theorem dX7_single_36 : decode cX7_single 36 = .ok (.iconst 2, 1) := by decide +kernel
theorem dX7_single_37 : decode cX7_single 37 = .ok (.iload 5, 2) := by decide +kernel
theorem dX7_single_39 : decode cX7_single 39 = .ok (.imul, 1) := by decide +kernel
theorem dX7_single_40 : decode cX7_single 40 = .ok (.iload_n 1, 1) := by decide +kernel
theorem dX7_single_41 : decode cX7_single 41 = .ok (.if_icmp .gt 19, 3) := by decide +kernel
theorem dX7_single_44 : decode cX7_single 44 = .ok (.iconst 2, 1) := by decide +kernel
theorem dX7_single_45 : decode cX7_single 45 = .ok (.iload 5, 2) := by decide +kernel
theorem dX7_single_47 : decode cX7_single 47 = .ok (.imul, 1) := by decide +kernel
theorem dX7_single_48 : decode cX7_single 48 = .ok (.iload_n 1, 1) := by decide +kernel
theorem dX7_single_49 : decode cX7_single 49 = .ok (.if_icmp .ne 15, 3) := by decide +kernel
theorem dX7_single_52 : decode cX7_single 52 = .ok (.iload 4, 2) := by decide +kernel
theorem dX7_single_54 : decode cX7_single 54 = .ok (.iconst 2, 1) := by decide +kernel
theorem dX7_single_55 : decode cX7_single 55 = .ok (.irem, 1) := by decide +kernel
theorem dX7_single_56 : decode cX7_single 56 = .ok (.iconst 1, 1) := by decide +kernel
theorem dX7_single_57 : decode cX7_single 57 = .ok (.if_icmp .ne 7, 3) := by decide +kernel
theorem dX7_single_60 : decode cX7_single 60 = .ok (.iconst 1, 1) := by decide +kernel
theorem dX7_single_61 : decode cX7_single 61 = .ok (.goto 4, 3) := by decide +kernel
theorem dX7_single_64 : decode cX7_single 64 = .ok (.iconst 0, 1) := by decide +kernel
theorem dX7_single_65 : decode cX7_single 65 = .ok (.iadd, 1) := by decide +kernel
theorem dX7_single_66 : decode cX7_single 66 = .ok (.istore 4, 2) := by decide +kernel
theorem dX7_single_68 : decode cX7_single 68 = .ok (.bipush 127, 2) := by decide +kernel
theorem dX7_single_70 : decode cX7_single 70 = .ok (.iload_n 2, 1) := by decide +kernel
theorem dX7_single_71 : decode cX7_single 71 = .ok (.iadd, 1) := by decide +kernel
theorem dX7_single_72 : decode cX7_single 72 = .ok (.bipush 23, 2) := by decide +kernel
theorem dX7_single_74 : decode cX7_single 74 = .ok (.ishl, 1) := by decide +kernel
theorem dX7_single_75 : decode cX7_single 75 = .ok (.iload 4, 2) := by decide +kernel
theorem dX7_single_77 : decode cX7_single 77 = .ok (.iadd, 1) := by decide +kernel
theorem dX7_single_78 : decode cX7_single 78 = .ok (.ldc 235, 2) := by decide +kernel
theorem dX7_single_80 : decode cX7_single 80 = .ok (.isub, 1) := by decide +kernel
theorem dX7_single_81 : decode cX7_single 81 = .ok (.ireturn, 1) := by decide +kernel
theorem dX7_freePairs_0 : decode cX7_freePairs 0 = .ok (.iconst 0, 1) := by decide +kernel
theorem dX7_freePairs_1 : decode cX7_freePairs 1 = .ok (.istore_n 1, 1) := by decide +kernel
theorem dX7_freePairs_2 : decode cX7_freePairs 2 = .ok (.iconst 0, 1) := by decide +kernel
theorem dX7_freePairs_3 : decode cX7_freePairs 3 = .ok (.istore_n 2, 1) := by decide +kernel
theorem dX7_freePairs_4 : decode cX7_freePairs 4 = .ok (.iload_n 2, 1) := by decide +kernel
theorem dX7_freePairs_5 : decode cX7_freePairs 5 = .ok (.aload_n 0, 1) := by decide +kernel
theorem dX7_freePairs_6 : decode cX7_freePairs 6 = .ok (.getfield 203, 3) := by decide +kernel
theorem dX7_freePairs_9 : decode cX7_freePairs 9 = .ok (.if_icmp .ge 47, 3) := by decide +kernel
theorem dX7_freePairs_12 : decode cX7_freePairs 12 = .ok (.iconst 0, 1) := by decide +kernel
theorem dX7_freePairs_13 : decode cX7_freePairs 13 = .ok (.istore_n 3, 1) := by decide +kernel
theorem dX7_freePairs_14 : decode cX7_freePairs 14 = .ok (.iload_n 3, 1) := by decide +kernel
theorem dX7_freePairs_15 : decode cX7_freePairs 15 = .ok (.iload_n 2, 1) := by decide +kernel
theorem dX7_freePairs_16 : decode cX7_freePairs 16 = .ok (.if_icmp .ge 34, 3) := by decide +kernel
theorem dX7_freePairs_19 : decode cX7_freePairs 19 = .ok (.iload_n 1, 1) := by decide +kernel
theorem dX7_freePairs_20 : decode cX7_freePairs 20 = .ok (.aload_n 0, 1) := by decide +kernel
theorem dX7_freePairs_21 : decode cX7_freePairs 21 = .ok (.aload_n 0, 1) := by decide +kernel
theorem dX7_freePairs_22 : decode cX7_freePairs 22 = .ok (.iload_n 2, 1) := by decide +kernel
theorem dX7_freePairs_23 : decode cX7_freePairs 23 = .ok (.invokevirtual 209, 3) := by decide +kernel
theorem dX7_freePairs_26 : decode cX7_freePairs 26 = .ok (.aload_n 0, 1) := by decide +kernel
theorem dX7_freePairs_27 : decode cX7_freePairs 27 = .ok (.iload_n 3, 1) := by decide +kernel
theorem dX7_freePairs_28 : decode cX7_freePairs 28 = .ok (.invokevirtual 209, 3) := by decide +kernel
theorem dX7_freePairs_31 : decode cX7_freePairs 31 = .ok (.invokevirtual 200, 3) := by decide +kernel
theorem dX7_freePairs_34 : decode cX7_freePairs 34 = .ok (.ifCond .ne 7, 3) := by decide +kernel
theorem dX7_freePairs_37 : decode cX7_freePairs 37 = .ok (.iconst 1, 1) := by decide +kernel
theorem dX7_freePairs_38 : decode cX7_freePairs 38 = .ok (.goto 4, 3) := by decide +kernel
theorem dX7_freePairs_41 : decode cX7_freePairs 41 = .ok (.iconst 0, 1) := by decide +kernel
theorem dX7_freePairs_42 : decode cX7_freePairs 42 = .ok (.iadd, 1) := by decide +kernel
theorem dX7_freePairs_43 : decode cX7_freePairs 43 = .ok (.istore_n 1, 1) := by decide +kernel
theorem dX7_freePairs_44 : decode cX7_freePairs 44 = .ok (.iinc 3 1, 3) := by decide +kernel
theorem dX7_freePairs_47 : decode cX7_freePairs 47 = .ok (.goto (-33), 3) := by decide +kernel
theorem dX7_freePairs_50 : decode cX7_freePairs 50 = .ok (.iinc 2 1, 3) := by decide +kernel
theorem dX7_freePairs_53 : decode cX7_freePairs 53 = .ok (.goto (-49), 3) := by decide +kernel
theorem dX7_freePairs_56 : decode cX7_freePairs 56 = .ok (.iload_n 1, 1) := by decide +kernel
theorem dX7_freePairs_57 : decode cX7_freePairs 57 = .ok (.ireturn, 1) := by decide +kernel
theorem dX7_isNormal_0 : decode cX7_isNormal 0 = .ok (.iconst 1, 1) := by decide +kernel
theorem dX7_isNormal_1 : decode cX7_isNormal 1 = .ok (.istore_n 1, 1) := by decide +kernel
theorem dX7_isNormal_2 : decode cX7_isNormal 2 = .ok (.iconst 0, 1) := by decide +kernel
theorem dX7_isNormal_3 : decode cX7_isNormal 3 = .ok (.istore_n 2, 1) := by decide +kernel
theorem dX7_isNormal_4 : decode cX7_isNormal 4 = .ok (.iload_n 2, 1) := by decide +kernel
theorem dX7_isNormal_5 : decode cX7_isNormal 5 = .ok (.aload_n 0, 1) := by decide +kernel
theorem dX7_isNormal_6 : decode cX7_isNormal 6 = .ok (.getfield 203, 3) := by decide +kernel
theorem dX7_isNormal_9 : decode cX7_isNormal 9 = .ok (.if_icmp .ge 25, 3) := by decide +kernel
theorem dX7_isNormal_12 : decode cX7_isNormal 12 = .ok (.aload_n 0, 1) := by decide +kernel
theorem dX7_isNormal_13 : decode cX7_isNormal 13 = .ok (.getfield 46, 3) := by decide +kernel
theorem dX7_isNormal_16 : decode cX7_isNormal 16 = .ok (.iload_n 2, 1) := by decide +kernel
theorem dX7_isNormal_17 : decode cX7_isNormal 17 = .ok (.iaload, 1) := by decide +kernel
theorem dX7_isNormal_18 : decode cX7_isNormal 18 = .ok (.iload_n 2, 1) := by decide +kernel
theorem dX7_isNormal_19 : decode cX7_isNormal 19 = .ok (.if_icmp .ne 7, 3) := by decide +kernel
theorem dX7_isNormal_22 : decode cX7_isNormal 22 = .ok (.iload_n 1, 1) := by decide +kernel
theorem dX7_isNormal_23 : decode cX7_isNormal 23 = .ok (.goto 4, 3) := by decide +kernel
theorem dX7_isNormal_26 : decode cX7_isNormal 26 = .ok (.iconst 0, 1) := by decide +kernel
theorem dX7_isNormal_27 : decode cX7_isNormal 27 = .ok (.istore_n 1, 1) := by decide +kernel
theorem dX7_isNormal_28 : decode cX7_isNormal 28 = .ok (.iinc 2 1, 3) := by decide +kernel
theorem dX7_isNormal_31 : decode cX7_isNormal 31 = .ok (.goto (-27), 3) := by decide +kernel
theorem dX7_isNormal_34 : decode cX7_isNormal 34 = .ok (.iload_n 1, 1) := by decide +kernel
theorem dX7_isNormal_35 : decode cX7_isNormal 35 = .ok (.ireturn, 1) := by decide +kernel
theorem dX7_layNormal_0 : decode cX7_layNormal 0 = .ok (.iconst 0, 1) := by decide +kernel
theorem dX7_layNormal_1 : decode cX7_layNormal 1 = .ok (.istore_n 1, 1) := by decide +kernel
theorem dX7_layNormal_2 : decode cX7_layNormal 2 = .ok (.iload_n 1, 1) := by decide +kernel
theorem dX7_layNormal_3 : decode cX7_layNormal 3 = .ok (.aload_n 0, 1) := by decide +kernel
theorem dX7_layNormal_4 : decode cX7_layNormal 4 = .ok (.getfield 203, 3) := by decide +kernel
theorem dX7_layNormal_7 : decode cX7_layNormal 7 = .ok (.if_icmp .ge 25, 3) := by decide +kernel
theorem dX7_layNormal_10 : decode cX7_layNormal 10 = .ok (.aload_n 0, 1) := by decide +kernel
theorem dX7_layNormal_11 : decode cX7_layNormal 11 = .ok (.getfield 49, 3) := by decide +kernel
theorem dX7_layNormal_14 : decode cX7_layNormal 14 = .ok (.aload_n 0, 1) := by decide +kernel
theorem dX7_layNormal_15 : decode cX7_layNormal 15 = .ok (.getfield 46, 3) := by decide +kernel
theorem dX7_layNormal_18 : decode cX7_layNormal 18 = .ok (.iload_n 1, 1) := by decide +kernel
theorem dX7_layNormal_19 : decode cX7_layNormal 19 = .ok (.iaload, 1) := by decide +kernel
theorem dX7_layNormal_20 : decode cX7_layNormal 20 = .ok (.aload_n 0, 1) := by decide +kernel
theorem dX7_layNormal_21 : decode cX7_layNormal 21 = .ok (.iload_n 1, 1) := by decide +kernel
theorem dX7_layNormal_22 : decode cX7_layNormal 22 = .ok (.invokevirtual 209, 3) := by decide +kernel
theorem dX7_layNormal_25 : decode cX7_layNormal 25 = .ok (.iastore, 1) := by decide +kernel
theorem dX7_layNormal_26 : decode cX7_layNormal 26 = .ok (.iinc 1 1, 3) := by decide +kernel
theorem dX7_layNormal_29 : decode cX7_layNormal 29 = .ok (.goto (-27), 3) := by decide +kernel
theorem dX7_layNormal_32 : decode cX7_layNormal 32 = .ok (.return_, 1) := by decide +kernel
theorem dX7_hold_0 : decode cX7_hold 0 = .ok (.aload_n 0, 1) := by decide +kernel
theorem dX7_hold_1 : decode cX7_hold 1 = .ok (.aload_n 0, 1) := by decide +kernel
theorem dX7_hold_2 : decode cX7_hold 2 = .ok (.getfield 203, 3) := by decide +kernel
theorem dX7_hold_5 : decode cX7_hold 5 = .ok (.putfield 236, 3) := by decide +kernel
theorem dX7_hold_8 : decode cX7_hold 8 = .ok (.iconst 0, 1) := by decide +kernel
theorem dX7_hold_9 : decode cX7_hold 9 = .ok (.istore_n 1, 1) := by decide +kernel
theorem dX7_hold_10 : decode cX7_hold 10 = .ok (.iload_n 1, 1) := by decide +kernel
theorem dX7_hold_11 : decode cX7_hold 11 = .ok (.bipush 16, 2) := by decide +kernel
theorem dX7_hold_13 : decode cX7_hold 13 = .ok (.if_icmp .ge 33, 3) := by decide +kernel
theorem dX7_hold_16 : decode cX7_hold 16 = .ok (.aload_n 0, 1) := by decide +kernel
theorem dX7_hold_17 : decode cX7_hold 17 = .ok (.getfield 52, 3) := by decide +kernel
theorem dX7_hold_20 : decode cX7_hold 20 = .ok (.iload_n 1, 1) := by decide +kernel
theorem dX7_hold_21 : decode cX7_hold 21 = .ok (.aload_n 0, 1) := by decide +kernel
theorem dX7_hold_22 : decode cX7_hold 22 = .ok (.getfield 19, 3) := by decide +kernel
theorem dX7_hold_25 : decode cX7_hold 25 = .ok (.iload_n 1, 1) := by decide +kernel
theorem dX7_hold_26 : decode cX7_hold 26 = .ok (.iaload, 1) := by decide +kernel
theorem dX7_hold_27 : decode cX7_hold 27 = .ok (.iastore, 1) := by decide +kernel
theorem dX7_hold_28 : decode cX7_hold 28 = .ok (.aload_n 0, 1) := by decide +kernel
theorem dX7_hold_29 : decode cX7_hold 29 = .ok (.getfield 55, 3) := by decide +kernel
theorem dX7_hold_32 : decode cX7_hold 32 = .ok (.iload_n 1, 1) := by decide +kernel
theorem dX7_hold_33 : decode cX7_hold 33 = .ok (.aload_n 0, 1) := by decide +kernel
theorem dX7_hold_34 : decode cX7_hold 34 = .ok (.getfield 22, 3) := by decide +kernel
theorem dX7_hold_37 : decode cX7_hold 37 = .ok (.iload_n 1, 1) := by decide +kernel
theorem dX7_hold_38 : decode cX7_hold 38 = .ok (.iaload, 1) := by decide +kernel
theorem dX7_hold_39 : decode cX7_hold 39 = .ok (.iastore, 1) := by decide +kernel
theorem dX7_hold_40 : decode cX7_hold 40 = .ok (.iinc 1 1, 3) := by decide +kernel
theorem dX7_hold_43 : decode cX7_hold 43 = .ok (.goto (-33), 3) := by decide +kernel
theorem dX7_hold_46 : decode cX7_hold 46 = .ok (.return_, 1) := by decide +kernel
theorem dX7_giveBack_0 : decode cX7_giveBack 0 = .ok (.aload_n 0, 1) := by decide +kernel
theorem dX7_giveBack_1 : decode cX7_giveBack 1 = .ok (.aload_n 0, 1) := by decide +kernel
theorem dX7_giveBack_2 : decode cX7_giveBack 2 = .ok (.getfield 236, 3) := by decide +kernel
theorem dX7_giveBack_5 : decode cX7_giveBack 5 = .ok (.putfield 203, 3) := by decide +kernel
theorem dX7_giveBack_8 : decode cX7_giveBack 8 = .ok (.iconst 0, 1) := by decide +kernel
theorem dX7_giveBack_9 : decode cX7_giveBack 9 = .ok (.istore_n 1, 1) := by decide +kernel
theorem dX7_giveBack_10 : decode cX7_giveBack 10 = .ok (.iload_n 1, 1) := by decide +kernel
theorem dX7_giveBack_11 : decode cX7_giveBack 11 = .ok (.bipush 16, 2) := by decide +kernel
theorem dX7_giveBack_13 : decode cX7_giveBack 13 = .ok (.if_icmp .ge 33, 3) := by decide +kernel
theorem dX7_giveBack_16 : decode cX7_giveBack 16 = .ok (.aload_n 0, 1) := by decide +kernel
theorem dX7_giveBack_17 : decode cX7_giveBack 17 = .ok (.getfield 19, 3) := by decide +kernel
theorem dX7_giveBack_20 : decode cX7_giveBack 20 = .ok (.iload_n 1, 1) := by decide +kernel
theorem dX7_giveBack_21 : decode cX7_giveBack 21 = .ok (.aload_n 0, 1) := by decide +kernel
theorem dX7_giveBack_22 : decode cX7_giveBack 22 = .ok (.getfield 52, 3) := by decide +kernel
theorem dX7_giveBack_25 : decode cX7_giveBack 25 = .ok (.iload_n 1, 1) := by decide +kernel
theorem dX7_giveBack_26 : decode cX7_giveBack 26 = .ok (.iaload, 1) := by decide +kernel
theorem dX7_giveBack_27 : decode cX7_giveBack 27 = .ok (.iastore, 1) := by decide +kernel
theorem dX7_giveBack_28 : decode cX7_giveBack 28 = .ok (.aload_n 0, 1) := by decide +kernel
theorem dX7_giveBack_29 : decode cX7_giveBack 29 = .ok (.getfield 22, 3) := by decide +kernel
theorem dX7_giveBack_32 : decode cX7_giveBack 32 = .ok (.iload_n 1, 1) := by decide +kernel
theorem dX7_giveBack_33 : decode cX7_giveBack 33 = .ok (.aload_n 0, 1) := by decide +kernel
theorem dX7_giveBack_34 : decode cX7_giveBack 34 = .ok (.getfield 55, 3) := by decide +kernel
theorem dX7_giveBack_37 : decode cX7_giveBack 37 = .ok (.iload_n 1, 1) := by decide +kernel
theorem dX7_giveBack_38 : decode cX7_giveBack 38 = .ok (.iaload, 1) := by decide +kernel
theorem dX7_giveBack_39 : decode cX7_giveBack 39 = .ok (.iastore, 1) := by decide +kernel
theorem dX7_giveBack_40 : decode cX7_giveBack 40 = .ok (.iinc 1 1, 3) := by decide +kernel
theorem dX7_giveBack_43 : decode cX7_giveBack 43 = .ok (.goto (-33), 3) := by decide +kernel
theorem dX7_giveBack_46 : decode cX7_giveBack 46 = .ok (.return_, 1) := by decide +kernel
theorem dX7_compared_0 : decode cX7_compared 0 = .ok (.aload_n 0, 1) := by decide +kernel
theorem dX7_compared_1 : decode cX7_compared 1 = .ok (.invokevirtual 239, 3) := by decide +kernel
theorem dX7_compared_4 : decode cX7_compared 4 = .ok (.aload_n 0, 1) := by decide +kernel
theorem dX7_compared_5 : decode cX7_compared 5 = .ok (.invokevirtual 242, 3) := by decide +kernel
theorem dX7_compared_8 : decode cX7_compared 8 = .ok (.aload_n 0, 1) := by decide +kernel
theorem dX7_compared_9 : decode cX7_compared 9 = .ok (.aload_n 0, 1) := by decide +kernel
theorem dX7_compared_10 : decode cX7_compared 10 = .ok (.getfield 70, 3) := by decide +kernel
theorem dX7_compared_13 : decode cX7_compared 13 = .ok (.bipush 50, 2) := by decide +kernel
theorem dX7_compared_15 : decode cX7_compared 15 = .ok (.iaload, 1) := by decide +kernel
theorem dX7_compared_16 : decode cX7_compared 16 = .ok (.putfield 203, 3) := by decide +kernel
theorem dX7_compared_19 : decode cX7_compared 19 = .ok (.iconst 0, 1) := by decide +kernel
theorem dX7_compared_20 : decode cX7_compared 20 = .ok (.istore_n 1, 1) := by decide +kernel
theorem dX7_compared_21 : decode cX7_compared 21 = .ok (.iload_n 1, 1) := by decide +kernel
theorem dX7_compared_22 : decode cX7_compared 22 = .ok (.bipush 16, 2) := by decide +kernel
theorem dX7_compared_24 : decode cX7_compared 24 = .ok (.if_icmp .ge 39, 3) := by decide +kernel
theorem dX7_compared_27 : decode cX7_compared 27 = .ok (.aload_n 0, 1) := by decide +kernel
theorem dX7_compared_28 : decode cX7_compared 28 = .ok (.getfield 19, 3) := by decide +kernel
theorem dX7_compared_31 : decode cX7_compared 31 = .ok (.iload_n 1, 1) := by decide +kernel
theorem dX7_compared_32 : decode cX7_compared 32 = .ok (.aload_n 0, 1) := by decide +kernel
theorem dX7_compared_33 : decode cX7_compared 33 = .ok (.getfield 70, 3) := by decide +kernel
theorem dX7_compared_36 : decode cX7_compared 36 = .ok (.bipush 18, 2) := by decide +kernel
theorem dX7_compared_38 : decode cX7_compared 38 = .ok (.iload_n 1, 1) := by decide +kernel
theorem dX7_compared_39 : decode cX7_compared 39 = .ok (.iadd, 1) := by decide +kernel
theorem dX7_compared_40 : decode cX7_compared 40 = .ok (.iaload, 1) := by decide +kernel
theorem dX7_compared_41 : decode cX7_compared 41 = .ok (.iastore, 1) := by decide +kernel
theorem dX7_compared_42 : decode cX7_compared 42 = .ok (.aload_n 0, 1) := by decide +kernel
theorem dX7_compared_43 : decode cX7_compared 43 = .ok (.getfield 22, 3) := by decide +kernel
theorem dX7_compared_46 : decode cX7_compared 46 = .ok (.iload_n 1, 1) := by decide +kernel
theorem dX7_compared_47 : decode cX7_compared 47 = .ok (.aload_n 0, 1) := by decide +kernel
theorem dX7_compared_48 : decode cX7_compared 48 = .ok (.getfield 70, 3) := by decide +kernel
theorem dX7_compared_51 : decode cX7_compared 51 = .ok (.bipush 34, 2) := by decide +kernel
theorem dX7_compared_53 : decode cX7_compared 53 = .ok (.iload_n 1, 1) := by decide +kernel
theorem dX7_compared_54 : decode cX7_compared 54 = .ok (.iadd, 1) := by decide +kernel
theorem dX7_compared_55 : decode cX7_compared 55 = .ok (.iaload, 1) := by decide +kernel
theorem dX7_compared_56 : decode cX7_compared 56 = .ok (.iastore, 1) := by decide +kernel
theorem dX7_compared_57 : decode cX7_compared 57 = .ok (.iinc 1 1, 3) := by decide +kernel
theorem dX7_compared_60 : decode cX7_compared 60 = .ok (.goto (-39), 3) := by decide +kernel
theorem dX7_compared_63 : decode cX7_compared 63 = .ok (.aload_n 0, 1) := by decide +kernel
theorem dX7_compared_64 : decode cX7_compared 64 = .ok (.invokevirtual 220, 3) := by decide +kernel
theorem dX7_compared_67 : decode cX7_compared 67 = .ok (.istore_n 1, 1) := by decide +kernel
theorem dX7_compared_68 : decode cX7_compared 68 = .ok (.iload_n 1, 1) := by decide +kernel
theorem dX7_compared_69 : decode cX7_compared 69 = .ok (.ifCond .eq 18, 3) := by decide +kernel
theorem dX7_compared_72 : decode cX7_compared 72 = .ok (.aload_n 0, 1) := by decide +kernel
theorem dX7_compared_73 : decode cX7_compared 73 = .ok (.getfield 203, 3) := by decide +kernel
theorem dX7_compared_76 : decode cX7_compared 76 = .ok (.aload_n 0, 1) := by decide +kernel
theorem dX7_compared_77 : decode cX7_compared 77 = .ok (.getfield 236, 3) := by decide +kernel
theorem dX7_compared_80 : decode cX7_compared 80 = .ok (.if_icmp .ne 7, 3) := by decide +kernel
theorem dX7_compared_83 : decode cX7_compared 83 = .ok (.iconst 1, 1) := by decide +kernel
theorem dX7_compared_84 : decode cX7_compared 84 = .ok (.goto 4, 3) := by decide +kernel
theorem dX7_compared_87 : decode cX7_compared 87 = .ok (.iconst 0, 1) := by decide +kernel
theorem dX7_compared_88 : decode cX7_compared 88 = .ok (.istore_n 2, 1) := by decide +kernel
theorem dX7_compared_89 : decode cX7_compared 89 = .ok (.iload_n 2, 1) := by decide +kernel
theorem dX7_compared_90 : decode cX7_compared 90 = .ok (.ifCond .eq 7, 3) := by decide +kernel
theorem dX7_compared_93 : decode cX7_compared 93 = .ok (.aload_n 0, 1) := by decide +kernel
theorem dX7_compared_94 : decode cX7_compared 94 = .ok (.invokevirtual 223, 3) := by decide +kernel
theorem dX7_compared_97 : decode cX7_compared 97 = .ok (.iconst 0, 1) := by decide +kernel
theorem dX7_compared_98 : decode cX7_compared 98 = .ok (.istore_n 3, 1) := by decide +kernel
theorem dX7_compared_99 : decode cX7_compared 99 = .ok (.iload_n 3, 1) := by decide +kernel
theorem dX7_compared_100 : decode cX7_compared 100 = .ok (.aload_n 0, 1) := by decide +kernel
theorem dX7_compared_101 : decode cX7_compared 101 = .ok (.getfield 203, 3) := by decide +kernel
theorem dX7_compared_104 : decode cX7_compared 104 = .ok (.if_icmp .ge 38, 3) := by decide +kernel
theorem dX7_compared_107 : decode cX7_compared 107 = .ok (.iload_n 2, 1) := by decide +kernel
theorem dX7_compared_108 : decode cX7_compared 108 = .ok (.ifCond .eq 34, 3) := by decide +kernel
theorem dX7_compared_111 : decode cX7_compared 111 = .ok (.aload_n 0, 1) := by decide +kernel
theorem dX7_compared_112 : decode cX7_compared 112 = .ok (.getfield 49, 3) := by decide +kernel
theorem dX7_compared_115 : decode cX7_compared 115 = .ok (.aload_n 0, 1) := by decide +kernel
theorem dX7_compared_116 : decode cX7_compared 116 = .ok (.getfield 46, 3) := by decide +kernel
theorem dX7_compared_119 : decode cX7_compared 119 = .ok (.iload_n 3, 1) := by decide +kernel
theorem dX7_compared_120 : decode cX7_compared 120 = .ok (.iaload, 1) := by decide +kernel
theorem dX7_compared_121 : decode cX7_compared 121 = .ok (.iaload, 1) := by decide +kernel
theorem dX7_compared_122 : decode cX7_compared 122 = .ok (.aload_n 0, 1) := by decide +kernel
theorem dX7_compared_123 : decode cX7_compared 123 = .ok (.iload_n 3, 1) := by decide +kernel
theorem dX7_compared_124 : decode cX7_compared 124 = .ok (.invokevirtual 209, 3) := by decide +kernel
theorem dX7_compared_127 : decode cX7_compared 127 = .ok (.if_icmp .ne 7, 3) := by decide +kernel
theorem dX7_compared_130 : decode cX7_compared 130 = .ok (.iconst 1, 1) := by decide +kernel
theorem dX7_compared_131 : decode cX7_compared 131 = .ok (.goto 4, 3) := by decide +kernel
theorem dX7_compared_134 : decode cX7_compared 134 = .ok (.iconst 0, 1) := by decide +kernel
theorem dX7_compared_135 : decode cX7_compared 135 = .ok (.istore_n 2, 1) := by decide +kernel
theorem dX7_compared_136 : decode cX7_compared 136 = .ok (.iinc 3 1, 3) := by decide +kernel
theorem dX7_compared_139 : decode cX7_compared 139 = .ok (.goto (-40), 3) := by decide +kernel
theorem dX7_compared_142 : decode cX7_compared 142 = .ok (.aload_n 0, 1) := by decide +kernel
theorem dX7_compared_143 : decode cX7_compared 143 = .ok (.invokevirtual 245, 3) := by decide +kernel
theorem dX7_compared_146 : decode cX7_compared 146 = .ok (.iload_n 1, 1) := by decide +kernel
theorem dX7_compared_147 : decode cX7_compared 147 = .ok (.ifCond .ne 8, 3) := by decide +kernel
theorem dX7_compared_150 : decode cX7_compared 150 = .ok (.bipush (-5), 2) := by decide +kernel
theorem dX7_compared_152 : decode cX7_compared 152 = .ok (.goto 12, 3) := by decide +kernel
theorem dX7_compared_155 : decode cX7_compared 155 = .ok (.iload_n 2, 1) := by decide +kernel
theorem dX7_compared_156 : decode cX7_compared 156 = .ok (.ifCond .eq 7, 3) := by decide +kernel
theorem dX7_compared_159 : decode cX7_compared 159 = .ok (.iconst 1, 1) := by decide +kernel
theorem dX7_compared_160 : decode cX7_compared 160 = .ok (.goto 4, 3) := by decide +kernel
theorem dX7_compared_163 : decode cX7_compared 163 = .ok (.iconst 0, 1) := by decide +kernel
theorem dX7_compared_164 : decode cX7_compared 164 = .ok (.ireturn, 1) := by decide +kernel
theorem dX7_stages_0 : decode cX7_stages 0 = .ok (.iload_n 1, 1) := by decide +kernel
theorem dX7_stages_1 : decode cX7_stages 1 = .ok (.i2l, 1) := by decide +kernel
theorem dX7_stages_2 : decode cX7_stages 2 = .ok (.lconst 0, 1) := by decide +kernel
theorem dX7_stages_3 : decode cX7_stages 3 = .ok (.ldc2_w 248, 3) := by decide +kernel
theorem dX7_stages_6 : decode cX7_stages 6 = .ok (.invokestatic 79, 3) := by decide +kernel
theorem dX7_stages_9 : decode cX7_stages 9 = .ok (.ifCond .ne 6, 3) := by decide +kernel
theorem dX7_stages_12 : decode cX7_stages 12 = .ok (.bipush (-2), 2) := by decide +kernel
theorem dX7_stages_14 : decode cX7_stages 14 = .ok (.ireturn, 1) := by decide +kernel
theorem dX7_stages_15 : decode cX7_stages 15 = .ok (.iload_n 1, 1) := by decide +kernel
theorem dX7_stages_16 : decode cX7_stages 16 = .ok (.bipush 6, 2) := by decide +kernel
theorem dX7_stages_18 : decode cX7_stages 18 = .ok (.if_icmp .ne 15, 3) := by decide +kernel
theorem dX7_stages_21 : decode cX7_stages 21 = .ok (.aload_n 0, 1) := by decide +kernel
theorem dX7_stages_22 : decode cX7_stages 22 = .ok (.getfield 73, 3) := by decide +kernel
theorem dX7_stages_25 : decode cX7_stages 25 = .ok (.iconst 0, 1) := by decide +kernel
theorem dX7_stages_26 : decode cX7_stages 26 = .ok (.baload, 1) := by decide +kernel
theorem dX7_stages_27 : decode cX7_stages 27 = .ok (.ifCond .ne 6, 3) := by decide +kernel
theorem dX7_stages_30 : decode cX7_stages 30 = .ok (.bipush (-3), 2) := by decide +kernel
theorem dX7_stages_32 : decode cX7_stages 32 = .ok (.ireturn, 1) := by decide +kernel
theorem dX7_stages_33 : decode cX7_stages 33 = .ok (.aload_n 0, 1) := by decide +kernel
theorem dX7_stages_34 : decode cX7_stages 34 = .ok (.invokevirtual 226, 3) := by decide +kernel
theorem dX7_stages_37 : decode cX7_stages 37 = .ok (.ifCond .ne 6, 3) := by decide +kernel
theorem dX7_stages_40 : decode cX7_stages 40 = .ok (.bipush (-5), 2) := by decide +kernel
theorem dX7_stages_42 : decode cX7_stages 42 = .ok (.ireturn, 1) := by decide +kernel
theorem dX7_stages_43 : decode cX7_stages 43 = .ok (.iload_n 1, 1) := by decide +kernel
theorem dX7_stages_44 : decode cX7_stages 44 = .ok (.tableswitch 103 0 5 #[40, 45, 65, 70, 93, 98], 40) := by decide +kernel
theorem dX7_stages_84 : decode cX7_stages 84 = .ok (.aload_n 0, 1) := by decide +kernel
theorem dX7_stages_85 : decode cX7_stages 85 = .ok (.invokevirtual 229, 3) := by decide +kernel
theorem dX7_stages_88 : decode cX7_stages 88 = .ok (.ireturn, 1) := by decide +kernel
theorem dX7_stages_89 : decode cX7_stages 89 = .ok (.aload_n 0, 1) := by decide +kernel
theorem dX7_stages_90 : decode cX7_stages 90 = .ok (.getfield 203, 3) := by decide +kernel
theorem dX7_stages_93 : decode cX7_stages 93 = .ok (.ifCond .ne 7, 3) := by decide +kernel
theorem dX7_stages_96 : decode cX7_stages 96 = .ok (.iconst 0, 1) := by decide +kernel
theorem dX7_stages_97 : decode cX7_stages 97 = .ok (.goto 11, 3) := by decide +kernel
theorem dX7_stages_100 : decode cX7_stages 100 = .ok (.aload_n 0, 1) := by decide +kernel
theorem dX7_stages_101 : decode cX7_stages 101 = .ok (.aload_n 0, 1) := by decide +kernel
theorem dX7_stages_102 : decode cX7_stages 102 = .ok (.invokevirtual 250, 3) := by decide +kernel
theorem dX7_stages_105 : decode cX7_stages 105 = .ok (.invokevirtual 232, 3) := by decide +kernel
theorem dX7_stages_108 : decode cX7_stages 108 = .ok (.ireturn, 1) := by decide +kernel
theorem dX7_stages_109 : decode cX7_stages 109 = .ok (.aload_n 0, 1) := by decide +kernel
theorem dX7_stages_110 : decode cX7_stages 110 = .ok (.invokevirtual 250, 3) := by decide +kernel
theorem dX7_stages_113 : decode cX7_stages 113 = .ok (.ireturn, 1) := by decide +kernel
theorem dX7_stages_114 : decode cX7_stages 114 = .ok (.aload_n 0, 1) := by decide +kernel
theorem dX7_stages_115 : decode cX7_stages 115 = .ok (.getfield 203, 3) := by decide +kernel
theorem dX7_stages_118 : decode cX7_stages 118 = .ok (.ifCond .ne 7, 3) := by decide +kernel
theorem dX7_stages_121 : decode cX7_stages 121 = .ok (.iconst 0, 1) := by decide +kernel
theorem dX7_stages_122 : decode cX7_stages 122 = .ok (.goto 14, 3) := by decide +kernel
theorem dX7_stages_125 : decode cX7_stages 125 = .ok (.aload_n 0, 1) := by decide +kernel
theorem dX7_stages_126 : decode cX7_stages 126 = .ok (.getfield 203, 3) := by decide +kernel
theorem dX7_stages_129 : decode cX7_stages 129 = .ok (.aload_n 0, 1) := by decide +kernel
theorem dX7_stages_130 : decode cX7_stages 130 = .ok (.invokevirtual 229, 3) := by decide +kernel
theorem dX7_stages_133 : decode cX7_stages 133 = .ok (.invokestatic 253, 3) := by decide +kernel
theorem dX7_stages_136 : decode cX7_stages 136 = .ok (.ireturn, 1) := by decide +kernel
theorem dX7_stages_137 : decode cX7_stages 137 = .ok (.aload_n 0, 1) := by decide +kernel
theorem dX7_stages_138 : decode cX7_stages 138 = .ok (.invokevirtual 256, 3) := by decide +kernel
theorem dX7_stages_141 : decode cX7_stages 141 = .ok (.ireturn, 1) := by decide +kernel
theorem dX7_stages_142 : decode cX7_stages 142 = .ok (.aload_n 0, 1) := by decide +kernel
theorem dX7_stages_143 : decode cX7_stages 143 = .ok (.invokevirtual 259, 3) := by decide +kernel
theorem dX7_stages_146 : decode cX7_stages 146 = .ok (.ireturn, 1) := by decide +kernel
theorem dX7_stages_147 : decode cX7_stages 147 = .ok (.aload_n 0, 1) := by decide +kernel
theorem dX7_stages_148 : decode cX7_stages 148 = .ok (.invokevirtual 262, 3) := by decide +kernel
theorem dX7_stages_151 : decode cX7_stages 151 = .ok (.ireturn, 1) := by decide +kernel
theorem dX7_push_0 : decode cX7_push 0 = .ok (.aload_n 0, 1) := by decide +kernel
theorem dX7_push_1 : decode cX7_push 1 = .ok (.getfield 58, 3) := by decide +kernel
theorem dX7_push_4 : decode cX7_push 4 = .ok (.aload_n 0, 1) := by decide +kernel
theorem dX7_push_5 : decode cX7_push 5 = .ok (.getfield 265, 3) := by decide +kernel
theorem dX7_push_8 : decode cX7_push 8 = .ok (.iload_n 1, 1) := by decide +kernel
theorem dX7_push_9 : decode cX7_push 9 = .ok (.iastore, 1) := by decide +kernel
theorem dX7_push_10 : decode cX7_push 10 = .ok (.aload_n 0, 1) := by decide +kernel
theorem dX7_push_11 : decode cX7_push 11 = .ok (.getfield 61, 3) := by decide +kernel
theorem dX7_push_14 : decode cX7_push 14 = .ok (.aload_n 0, 1) := by decide +kernel
theorem dX7_push_15 : decode cX7_push 15 = .ok (.getfield 265, 3) := by decide +kernel
theorem dX7_push_18 : decode cX7_push 18 = .ok (.iconst 0, 1) := by decide +kernel
theorem dX7_push_19 : decode cX7_push 19 = .ok (.iastore, 1) := by decide +kernel
theorem dX7_push_20 : decode cX7_push 20 = .ok (.aload_n 0, 1) := by decide +kernel
theorem dX7_push_21 : decode cX7_push 21 = .ok (.getfield 64, 3) := by decide +kernel
theorem dX7_push_24 : decode cX7_push 24 = .ok (.aload_n 0, 1) := by decide +kernel
theorem dX7_push_25 : decode cX7_push 25 = .ok (.getfield 265, 3) := by decide +kernel
theorem dX7_push_28 : decode cX7_push 28 = .ok (.iload_n 2, 1) := by decide +kernel
theorem dX7_push_29 : decode cX7_push 29 = .ok (.iastore, 1) := by decide +kernel
theorem dX7_push_30 : decode cX7_push 30 = .ok (.aload_n 0, 1) := by decide +kernel
theorem dX7_push_31 : decode cX7_push 31 = .ok (.dup, 1) := by decide +kernel
theorem dX7_push_32 : decode cX7_push 32 = .ok (.getfield 265, 3) := by decide +kernel
theorem dX7_push_35 : decode cX7_push 35 = .ok (.iconst 1, 1) := by decide +kernel
theorem dX7_push_36 : decode cX7_push 36 = .ok (.iadd, 1) := by decide +kernel
theorem dX7_push_37 : decode cX7_push 37 = .ok (.putfield 265, 3) := by decide +kernel
theorem dX7_push_40 : decode cX7_push 40 = .ok (.return_, 1) := by decide +kernel
theorem dX7_isThrowing_0 : decode cX7_isThrowing 0 = .ok (.aload_n 0, 1) := by decide +kernel
theorem dX7_isThrowing_1 : decode cX7_isThrowing 1 = .ok (.getfield 133, 3) := by decide +kernel
theorem dX7_isThrowing_4 : decode cX7_isThrowing 4 = .ok (.bipush 63, 2) := by decide +kernel
theorem dX7_isThrowing_6 : decode cX7_isThrowing 6 = .ok (.if_icmp .ne 21, 3) := by decide +kernel
theorem dX7_isThrowing_9 : decode cX7_isThrowing 9 = .ok (.aload_n 0, 1) := by decide +kernel
theorem dX7_isThrowing_10 : decode cX7_isThrowing 10 = .ok (.getfield 40, 3) := by decide +kernel
theorem dX7_isThrowing_13 : decode cX7_isThrowing 13 = .ok (.aload_n 0, 1) := by decide +kernel
theorem dX7_isThrowing_14 : decode cX7_isThrowing 14 = .ok (.getfield 124, 3) := by decide +kernel
theorem dX7_isThrowing_17 : decode cX7_isThrowing 17 = .ok (.iaload, 1) := by decide +kernel
theorem dX7_isThrowing_18 : decode cX7_isThrowing 18 = .ok (.ifCond .ne 7, 3) := by decide +kernel
theorem dX7_isThrowing_21 : decode cX7_isThrowing 21 = .ok (.iconst 1, 1) := by decide +kernel
theorem dX7_isThrowing_22 : decode cX7_isThrowing 22 = .ok (.goto 4, 3) := by decide +kernel
theorem dX7_isThrowing_25 : decode cX7_isThrowing 25 = .ok (.iconst 0, 1) := by decide +kernel
theorem dX7_isThrowing_26 : decode cX7_isThrowing 26 = .ok (.ireturn, 1) := by decide +kernel
theorem dX7_isThrowing_27 : decode cX7_isThrowing 27 = .ok (.aload_n 0, 1) := by decide +kernel
theorem dX7_isThrowing_28 : decode cX7_isThrowing 28 = .ok (.getfield 40, 3) := by decide +kernel
theorem dX7_isThrowing_31 : decode cX7_isThrowing 31 = .ok (.aload_n 0, 1) := by decide +kernel
theorem dX7_isThrowing_32 : decode cX7_isThrowing 32 = .ok (.getfield 124, 3) := by decide +kernel
theorem dX7_isThrowing_35 : decode cX7_isThrowing 35 = .ok (.aload_n 0, 1) := by decide +kernel
theorem dX7_isThrowing_36 : decode cX7_isThrowing 36 = .ok (.getfield 133, 3) := by decide +kernel
theorem dX7_isThrowing_39 : decode cX7_isThrowing 39 = .ok (.bipush 61, 2) := by decide +kernel
theorem dX7_isThrowing_41 : decode cX7_isThrowing 41 = .ok (.if_icmp .eq 12, 3) := by decide +kernel
theorem dX7_isThrowing_44 : decode cX7_isThrowing 44 = .ok (.aload_n 0, 1) := by decide +kernel
theorem dX7_isThrowing_45 : decode cX7_isThrowing 45 = .ok (.getfield 133, 3) := by decide +kernel
theorem dX7_isThrowing_48 : decode cX7_isThrowing 48 = .ok (.bipush 35, 2) := by decide +kernel
theorem dX7_isThrowing_50 : decode cX7_isThrowing 50 = .ok (.if_icmp .ne 10, 3) := by decide +kernel
theorem dX7_isThrowing_53 : decode cX7_isThrowing 53 = .ok (.aload_n 0, 1) := by decide +kernel
theorem dX7_isThrowing_54 : decode cX7_isThrowing 54 = .ok (.getfield 112, 3) := by decide +kernel
theorem dX7_isThrowing_57 : decode cX7_isThrowing 57 = .ok (.goto 20, 3) := by decide +kernel
theorem dX7_isThrowing_60 : decode cX7_isThrowing 60 = .ok (.aload_n 0, 1) := by decide +kernel
theorem dX7_isThrowing_61 : decode cX7_isThrowing 61 = .ok (.getfield 40, 3) := by decide +kernel
theorem dX7_isThrowing_64 : decode cX7_isThrowing 64 = .ok (.aload_n 0, 1) := by decide +kernel
theorem dX7_isThrowing_65 : decode cX7_isThrowing 65 = .ok (.getfield 124, 3) := by decide +kernel
theorem dX7_isThrowing_68 : decode cX7_isThrowing 68 = .ok (.iaload, 1) := by decide +kernel
theorem dX7_isThrowing_69 : decode cX7_isThrowing 69 = .ok (.aload_n 0, 1) := by decide +kernel
theorem dX7_isThrowing_70 : decode cX7_isThrowing 70 = .ok (.getfield 112, 3) := by decide +kernel
theorem dX7_isThrowing_73 : decode cX7_isThrowing 73 = .ok (.iadd, 1) := by decide +kernel
theorem dX7_isThrowing_74 : decode cX7_isThrowing 74 = .ok (.bipush 100, 2) := by decide +kernel
end
section
theorem dX7_isThrowing_76 : decode cX7_isThrowing 76 = .ok (.irem, 1) := by decide +kernel
theorem dX7_isThrowing_77 : decode cX7_isThrowing 77 = .ok (.iastore, 1) := by decide +kernel
theorem dX7_isThrowing_78 : decode cX7_isThrowing 78 = .ok (.iconst 0, 1) := by decide +kernel
theorem dX7_isThrowing_79 : decode cX7_isThrowing 79 = .ok (.ireturn, 1) := by decide +kernel
theorem dX7_doCall_0 : decode cX7_doCall 0 = .ok (.aload_n 0, 1) := by decide +kernel
theorem dX7_doCall_1 : decode cX7_doCall 1 = .ok (.iconst 0, 1) := by decide +kernel
theorem dX7_doCall_2 : decode cX7_doCall 2 = .ok (.putfield 265, 3) := by decide +kernel
theorem dX7_doCall_5 : decode cX7_doCall 5 = .ok (.aload_n 0, 1) := by decide +kernel
theorem dX7_doCall_6 : decode cX7_doCall 6 = .ok (.iconst 0, 1) := by decide +kernel
theorem dX7_doCall_7 : decode cX7_doCall 7 = .ok (.putfield 268, 3) := by decide +kernel
theorem dX7_doCall_10 : decode cX7_doCall 10 = .ok (.aload_n 0, 1) := by decide +kernel
theorem dX7_doCall_11 : decode cX7_doCall 11 = .ok (.aload_n 0, 1) := by decide +kernel
theorem dX7_doCall_12 : decode cX7_doCall 12 = .ok (.getfield 19, 3) := by decide +kernel
theorem dX7_doCall_15 : decode cX7_doCall 15 = .ok (.iload_n 1, 1) := by decide +kernel
theorem dX7_doCall_16 : decode cX7_doCall 16 = .ok (.iaload, 1) := by decide +kernel
theorem dX7_doCall_17 : decode cX7_doCall 17 = .ok (.aload_n 0, 1) := by decide +kernel
theorem dX7_doCall_18 : decode cX7_doCall 18 = .ok (.getfield 22, 3) := by decide +kernel
theorem dX7_doCall_21 : decode cX7_doCall 21 = .ok (.iload_n 1, 1) := by decide +kernel
theorem dX7_doCall_22 : decode cX7_doCall 22 = .ok (.iaload, 1) := by decide +kernel
theorem dX7_doCall_23 : decode cX7_doCall 23 = .ok (.invokevirtual 271, 3) := by decide +kernel
theorem dX7_doCall_26 : decode cX7_doCall 26 = .ok (.aload_n 0, 1) := by decide +kernel
theorem dX7_doCall_27 : decode cX7_doCall 27 = .ok (.getfield 265, 3) := by decide +kernel
theorem dX7_doCall_30 : decode cX7_doCall 30 = .ok (.ifCond .le 151, 3) := by decide +kernel
theorem dX7_doCall_33 : decode cX7_doCall 33 = .ok (.aload_n 0, 1) := by decide +kernel
theorem dX7_doCall_34 : decode cX7_doCall 34 = .ok (.getfield 265, 3) := by decide +kernel
theorem dX7_doCall_37 : decode cX7_doCall 37 = .ok (.iconst 1, 1) := by decide +kernel
theorem dX7_doCall_38 : decode cX7_doCall 38 = .ok (.isub, 1) := by decide +kernel
theorem dX7_doCall_39 : decode cX7_doCall 39 = .ok (.istore_n 2, 1) := by decide +kernel
theorem dX7_doCall_40 : decode cX7_doCall 40 = .ok (.aload_n 0, 1) := by decide +kernel
theorem dX7_doCall_41 : decode cX7_doCall 41 = .ok (.aload_n 0, 1) := by decide +kernel
theorem dX7_doCall_42 : decode cX7_doCall 42 = .ok (.getfield 58, 3) := by decide +kernel
theorem dX7_doCall_45 : decode cX7_doCall 45 = .ok (.iload_n 2, 1) := by decide +kernel
theorem dX7_doCall_46 : decode cX7_doCall 46 = .ok (.iaload, 1) := by decide +kernel
theorem dX7_doCall_47 : decode cX7_doCall 47 = .ok (.putfield 99, 3) := by decide +kernel
theorem dX7_doCall_50 : decode cX7_doCall 50 = .ok (.aload_n 0, 1) := by decide +kernel
theorem dX7_doCall_51 : decode cX7_doCall 51 = .ok (.aload_n 0, 1) := by decide +kernel
theorem dX7_doCall_52 : decode cX7_doCall 52 = .ok (.getfield 61, 3) := by decide +kernel
theorem dX7_doCall_55 : decode cX7_doCall 55 = .ok (.iload_n 2, 1) := by decide +kernel
theorem dX7_doCall_56 : decode cX7_doCall 56 = .ok (.iaload, 1) := by decide +kernel
theorem dX7_doCall_57 : decode cX7_doCall 57 = .ok (.putfield 95, 3) := by decide +kernel
theorem dX7_doCall_60 : decode cX7_doCall 60 = .ok (.aload_n 0, 1) := by decide +kernel
theorem dX7_doCall_61 : decode cX7_doCall 61 = .ok (.invokevirtual 153, 3) := by decide +kernel
theorem dX7_doCall_64 : decode cX7_doCall 64 = .ok (.ifCond .ne 16, 3) := by decide +kernel
theorem dX7_doCall_67 : decode cX7_doCall 67 = .ok (.aload_n 0, 1) := by decide +kernel
theorem dX7_doCall_68 : decode cX7_doCall 68 = .ok (.dup, 1) := by decide +kernel
theorem dX7_doCall_69 : decode cX7_doCall 69 = .ok (.getfield 265, 3) := by decide +kernel
theorem dX7_doCall_72 : decode cX7_doCall 72 = .ok (.iconst 1, 1) := by decide +kernel
theorem dX7_doCall_73 : decode cX7_doCall 73 = .ok (.isub, 1) := by decide +kernel
theorem dX7_doCall_74 : decode cX7_doCall 74 = .ok (.putfield 265, 3) := by decide +kernel
theorem dX7_doCall_77 : decode cX7_doCall 77 = .ok (.goto 101, 3) := by decide +kernel
theorem dX7_doCall_80 : decode cX7_doCall 80 = .ok (.aload_n 0, 1) := by decide +kernel
theorem dX7_doCall_81 : decode cX7_doCall 81 = .ok (.aload_n 0, 1) := by decide +kernel
theorem dX7_doCall_82 : decode cX7_doCall 82 = .ok (.getfield 64, 3) := by decide +kernel
theorem dX7_doCall_85 : decode cX7_doCall 85 = .ok (.iload_n 2, 1) := by decide +kernel
theorem dX7_doCall_86 : decode cX7_doCall 86 = .ok (.iaload, 1) := by decide +kernel
theorem dX7_doCall_87 : decode cX7_doCall 87 = .ok (.invokevirtual 156, 3) := by decide +kernel
theorem dX7_doCall_90 : decode cX7_doCall 90 = .ok (.istore_n 3, 1) := by decide +kernel
theorem dX7_doCall_91 : decode cX7_doCall 91 = .ok (.aload_n 0, 1) := by decide +kernel
theorem dX7_doCall_92 : decode cX7_doCall 92 = .ok (.getfield 61, 3) := by decide +kernel
theorem dX7_doCall_95 : decode cX7_doCall 95 = .ok (.iload_n 2, 1) := by decide +kernel
theorem dX7_doCall_96 : decode cX7_doCall 96 = .ok (.aload_n 0, 1) := by decide +kernel
theorem dX7_doCall_97 : decode cX7_doCall 97 = .ok (.getfield 95, 3) := by decide +kernel
theorem dX7_doCall_100 : decode cX7_doCall 100 = .ok (.iastore, 1) := by decide +kernel
theorem dX7_doCall_101 : decode cX7_doCall 101 = .ok (.aload_n 0, 1) := by decide +kernel
theorem dX7_doCall_102 : decode cX7_doCall 102 = .ok (.dup, 1) := by decide +kernel
theorem dX7_doCall_103 : decode cX7_doCall 103 = .ok (.getfield 268, 3) := by decide +kernel
theorem dX7_doCall_106 : decode cX7_doCall 106 = .ok (.iconst 1, 1) := by decide +kernel
theorem dX7_doCall_107 : decode cX7_doCall 107 = .ok (.iadd, 1) := by decide +kernel
theorem dX7_doCall_108 : decode cX7_doCall 108 = .ok (.putfield 268, 3) := by decide +kernel
theorem dX7_doCall_111 : decode cX7_doCall 111 = .ok (.iload_n 3, 1) := by decide +kernel
theorem dX7_doCall_112 : decode cX7_doCall 112 = .ok (.ifCond .eq 31, 3) := by decide +kernel
theorem dX7_doCall_115 : decode cX7_doCall 115 = .ok (.aload_n 0, 1) := by decide +kernel
theorem dX7_doCall_116 : decode cX7_doCall 116 = .ok (.getfield 268, 3) := by decide +kernel
theorem dX7_doCall_119 : decode cX7_doCall 119 = .ok (.sipush 200, 3) := by decide +kernel
theorem dX7_doCall_122 : decode cX7_doCall 122 = .ok (.if_icmp .gt 21, 3) := by decide +kernel
theorem dX7_doCall_125 : decode cX7_doCall 125 = .ok (.aload_n 0, 1) := by decide +kernel
theorem dX7_doCall_126 : decode cX7_doCall 126 = .ok (.getfield 133, 3) := by decide +kernel
theorem dX7_doCall_129 : decode cX7_doCall 129 = .ok (.bipush 99, 2) := by decide +kernel
theorem dX7_doCall_131 : decode cX7_doCall 131 = .ok (.if_icmp .ne 14, 3) := by decide +kernel
theorem dX7_doCall_134 : decode cX7_doCall 134 = .ok (.aload_n 0, 1) := by decide +kernel
theorem dX7_doCall_135 : decode cX7_doCall 135 = .ok (.getfield 265, 3) := by decide +kernel
theorem dX7_doCall_138 : decode cX7_doCall 138 = .ok (.bipush 20, 2) := by decide +kernel
theorem dX7_doCall_140 : decode cX7_doCall 140 = .ok (.if_icmp .ne 5, 3) := by decide +kernel
theorem dX7_doCall_143 : decode cX7_doCall 143 = .ok (.iconst 2, 1) := by decide +kernel
theorem dX7_doCall_144 : decode cX7_doCall 144 = .ok (.ireturn, 1) := by decide +kernel
theorem dX7_doCall_145 : decode cX7_doCall 145 = .ok (.aload_n 0, 1) := by decide +kernel
theorem dX7_doCall_146 : decode cX7_doCall 146 = .ok (.getfield 133, 3) := by decide +kernel
theorem dX7_doCall_149 : decode cX7_doCall 149 = .ok (.bipush 99, 2) := by decide +kernel
theorem dX7_doCall_151 : decode cX7_doCall 151 = .ok (.if_icmp .ne 18, 3) := by decide +kernel
theorem dX7_doCall_154 : decode cX7_doCall 154 = .ok (.aload_n 0, 1) := by decide +kernel
theorem dX7_doCall_155 : decode cX7_doCall 155 = .ok (.aload_n 0, 1) := by decide +kernel
theorem dX7_doCall_156 : decode cX7_doCall 156 = .ok (.getfield 127, 3) := by decide +kernel
theorem dX7_doCall_159 : decode cX7_doCall 159 = .ok (.aload_n 0, 1) := by decide +kernel
theorem dX7_doCall_160 : decode cX7_doCall 160 = .ok (.getfield 130, 3) := by decide +kernel
theorem dX7_doCall_163 : decode cX7_doCall 163 = .ok (.invokevirtual 271, 3) := by decide +kernel
theorem dX7_doCall_166 : decode cX7_doCall 166 = .ok (.goto 12, 3) := by decide +kernel
theorem dX7_doCall_169 : decode cX7_doCall 169 = .ok (.aload_n 0, 1) := by decide +kernel
theorem dX7_doCall_170 : decode cX7_doCall 170 = .ok (.invokevirtual 274, 3) := by decide +kernel
theorem dX7_doCall_173 : decode cX7_doCall 173 = .ok (.ifCond .eq 5, 3) := by decide +kernel
theorem dX7_doCall_176 : decode cX7_doCall 176 = .ok (.iconst 1, 1) := by decide +kernel
theorem dX7_doCall_177 : decode cX7_doCall 177 = .ok (.ireturn, 1) := by decide +kernel
theorem dX7_doCall_178 : decode cX7_doCall 178 = .ok (.goto (-152), 3) := by decide +kernel
theorem dX7_doCall_181 : decode cX7_doCall 181 = .ok (.iconst 0, 1) := by decide +kernel
theorem dX7_doCall_182 : decode cX7_doCall 182 = .ok (.ireturn, 1) := by decide +kernel
theorem dX7_kth_0 : decode cX7_kth 0 = .ok (.iconst 0, 1) := by decide +kernel
theorem dX7_kth_1 : decode cX7_kth 1 = .ok (.istore_n 3, 1) := by decide +kernel
theorem dX7_kth_2 : decode cX7_kth 2 = .ok (.iload_n 3, 1) := by decide +kernel
theorem dX7_kth_3 : decode cX7_kth 3 = .ok (.aload_n 0, 1) := by decide +kernel
theorem dX7_kth_4 : decode cX7_kth 4 = .ok (.getfield 203, 3) := by decide +kernel
theorem dX7_kth_7 : decode cX7_kth 7 = .ok (.if_icmp .ge 145, 3) := by decide +kernel
theorem dX7_kth_10 : decode cX7_kth 10 = .ok (.iconst 0, 1) := by decide +kernel
theorem dX7_kth_11 : decode cX7_kth 11 = .ok (.istore 4, 2) := by decide +kernel
theorem dX7_kth_13 : decode cX7_kth 13 = .ok (.iconst 0, 1) := by decide +kernel
theorem dX7_kth_14 : decode cX7_kth 14 = .ok (.istore 5, 2) := by decide +kernel
theorem dX7_kth_16 : decode cX7_kth 16 = .ok (.iload 5, 2) := by decide +kernel
theorem dX7_kth_18 : decode cX7_kth 18 = .ok (.aload_n 0, 1) := by decide +kernel
theorem dX7_kth_19 : decode cX7_kth 19 = .ok (.getfield 203, 3) := by decide +kernel
theorem dX7_kth_22 : decode cX7_kth 22 = .ok (.if_icmp .ge 116, 3) := by decide +kernel
theorem dX7_kth_25 : decode cX7_kth 25 = .ok (.aload_n 0, 1) := by decide +kernel
theorem dX7_kth_26 : decode cX7_kth 26 = .ok (.getfield 43, 3) := by decide +kernel
theorem dX7_kth_29 : decode cX7_kth 29 = .ok (.iload 5, 2) := by decide +kernel
theorem dX7_kth_31 : decode cX7_kth 31 = .ok (.iaload, 1) := by decide +kernel
theorem dX7_kth_32 : decode cX7_kth 32 = .ok (.aload_n 0, 1) := by decide +kernel
theorem dX7_kth_33 : decode cX7_kth 33 = .ok (.getfield 43, 3) := by decide +kernel
theorem dX7_kth_36 : decode cX7_kth 36 = .ok (.iload_n 3, 1) := by decide +kernel
theorem dX7_kth_37 : decode cX7_kth 37 = .ok (.iaload, 1) := by decide +kernel
theorem dX7_kth_38 : decode cX7_kth 38 = .ok (.if_icmp .lt 25, 3) := by decide +kernel
theorem dX7_kth_41 : decode cX7_kth 41 = .ok (.aload_n 0, 1) := by decide +kernel
theorem dX7_kth_42 : decode cX7_kth 42 = .ok (.getfield 43, 3) := by decide +kernel
theorem dX7_kth_45 : decode cX7_kth 45 = .ok (.iload 5, 2) := by decide +kernel
theorem dX7_kth_47 : decode cX7_kth 47 = .ok (.iaload, 1) := by decide +kernel
theorem dX7_kth_48 : decode cX7_kth 48 = .ok (.aload_n 0, 1) := by decide +kernel
theorem dX7_kth_49 : decode cX7_kth 49 = .ok (.getfield 43, 3) := by decide +kernel
theorem dX7_kth_52 : decode cX7_kth 52 = .ok (.iload_n 3, 1) := by decide +kernel
theorem dX7_kth_53 : decode cX7_kth 53 = .ok (.iaload, 1) := by decide +kernel
theorem dX7_kth_54 : decode cX7_kth 54 = .ok (.if_icmp .ne 13, 3) := by decide +kernel
theorem dX7_kth_57 : decode cX7_kth 57 = .ok (.iload 5, 2) := by decide +kernel
theorem dX7_kth_59 : decode cX7_kth 59 = .ok (.iload_n 3, 1) := by decide +kernel
theorem dX7_kth_60 : decode cX7_kth 60 = .ok (.if_icmp .le 7, 3) := by decide +kernel
theorem dX7_kth_63 : decode cX7_kth 63 = .ok (.iconst 1, 1) := by decide +kernel
theorem dX7_kth_64 : decode cX7_kth 64 = .ok (.goto 4, 3) := by decide +kernel
theorem dX7_kth_67 : decode cX7_kth 67 = .ok (.iconst 0, 1) := by decide +kernel
theorem dX7_kth_68 : decode cX7_kth 68 = .ok (.istore 6, 2) := by decide +kernel
theorem dX7_kth_70 : decode cX7_kth 70 = .ok (.iload 4, 2) := by decide +kernel
theorem dX7_kth_72 : decode cX7_kth 72 = .ok (.iload_n 1, 1) := by decide +kernel
theorem dX7_kth_73 : decode cX7_kth 73 = .ok (.ifCond .ne 17, 3) := by decide +kernel
theorem dX7_kth_76 : decode cX7_kth 76 = .ok (.iload 5, 2) := by decide +kernel
theorem dX7_kth_78 : decode cX7_kth 78 = .ok (.iload_n 3, 1) := by decide +kernel
theorem dX7_kth_79 : decode cX7_kth 79 = .ok (.if_icmp .ge 7, 3) := by decide +kernel
theorem dX7_kth_82 : decode cX7_kth 82 = .ok (.iconst 1, 1) := by decide +kernel
theorem dX7_kth_83 : decode cX7_kth 83 = .ok (.goto 46, 3) := by decide +kernel
theorem dX7_kth_86 : decode cX7_kth 86 = .ok (.iconst 0, 1) := by decide +kernel
theorem dX7_kth_87 : decode cX7_kth 87 = .ok (.goto 42, 3) := by decide +kernel
theorem dX7_kth_90 : decode cX7_kth 90 = .ok (.iload_n 1, 1) := by decide +kernel
theorem dX7_kth_91 : decode cX7_kth 91 = .ok (.iconst 1, 1) := by decide +kernel
theorem dX7_kth_92 : decode cX7_kth 92 = .ok (.if_icmp .ne 16, 3) := by decide +kernel
theorem dX7_kth_95 : decode cX7_kth 95 = .ok (.iload 6, 2) := by decide +kernel
theorem dX7_kth_97 : decode cX7_kth 97 = .ok (.ifCond .eq 7, 3) := by decide +kernel
theorem dX7_kth_100 : decode cX7_kth 100 = .ok (.iconst 1, 1) := by decide +kernel
theorem dX7_kth_101 : decode cX7_kth 101 = .ok (.goto 28, 3) := by decide +kernel
theorem dX7_kth_104 : decode cX7_kth 104 = .ok (.iconst 0, 1) := by decide +kernel
theorem dX7_kth_105 : decode cX7_kth 105 = .ok (.goto 24, 3) := by decide +kernel
theorem dX7_kth_108 : decode cX7_kth 108 = .ok (.aload_n 0, 1) := by decide +kernel
theorem dX7_kth_109 : decode cX7_kth 109 = .ok (.getfield 46, 3) := by decide +kernel
theorem dX7_kth_112 : decode cX7_kth 112 = .ok (.iload 5, 2) := by decide +kernel
theorem dX7_kth_114 : decode cX7_kth 114 = .ok (.iaload, 1) := by decide +kernel
theorem dX7_kth_115 : decode cX7_kth 115 = .ok (.aload_n 0, 1) := by decide +kernel
theorem dX7_kth_116 : decode cX7_kth 116 = .ok (.getfield 46, 3) := by decide +kernel
theorem dX7_kth_119 : decode cX7_kth 119 = .ok (.iload_n 3, 1) := by decide +kernel
theorem dX7_kth_120 : decode cX7_kth 120 = .ok (.iaload, 1) := by decide +kernel
theorem dX7_kth_121 : decode cX7_kth 121 = .ok (.if_icmp .ge 7, 3) := by decide +kernel
theorem dX7_kth_124 : decode cX7_kth 124 = .ok (.iconst 1, 1) := by decide +kernel
theorem dX7_kth_125 : decode cX7_kth 125 = .ok (.goto 4, 3) := by decide +kernel
theorem dX7_kth_128 : decode cX7_kth 128 = .ok (.iconst 0, 1) := by decide +kernel
theorem dX7_kth_129 : decode cX7_kth 129 = .ok (.iadd, 1) := by decide +kernel
theorem dX7_kth_130 : decode cX7_kth 130 = .ok (.istore 4, 2) := by decide +kernel
theorem dX7_kth_132 : decode cX7_kth 132 = .ok (.iinc 5 1, 3) := by decide +kernel
theorem dX7_kth_135 : decode cX7_kth 135 = .ok (.goto (-119), 3) := by decide +kernel
theorem dX7_kth_138 : decode cX7_kth 138 = .ok (.iload 4, 2) := by decide +kernel
theorem dX7_kth_140 : decode cX7_kth 140 = .ok (.iload_n 2, 1) := by decide +kernel
theorem dX7_kth_141 : decode cX7_kth 141 = .ok (.if_icmp .ne 5, 3) := by decide +kernel
theorem dX7_kth_144 : decode cX7_kth 144 = .ok (.iload_n 3, 1) := by decide +kernel
theorem dX7_kth_145 : decode cX7_kth 145 = .ok (.ireturn, 1) := by decide +kernel
theorem dX7_kth_146 : decode cX7_kth 146 = .ok (.iinc 3 1, 3) := by decide +kernel
theorem dX7_kth_149 : decode cX7_kth 149 = .ok (.goto (-147), 3) := by decide +kernel
theorem dX7_kth_152 : decode cX7_kth 152 = .ok (.bipush (-6), 2) := by decide +kernel
theorem dX7_kth_154 : decode cX7_kth 154 = .ok (.ireturn, 1) := by decide +kernel
theorem dX7_isRun_0 : decode cX7_isRun 0 = .ok (.aload_n 0, 1) := by decide +kernel
theorem dX7_isRun_1 : decode cX7_isRun 1 = .ok (.invokevirtual 226, 3) := by decide +kernel
theorem dX7_isRun_4 : decode cX7_isRun 4 = .ok (.ifCond .ne 5, 3) := by decide +kernel
theorem dX7_isRun_7 : decode cX7_isRun 7 = .ok (.iconst 0, 1) := by decide +kernel
theorem dX7_isRun_8 : decode cX7_isRun 8 = .ok (.ireturn, 1) := by decide +kernel
theorem dX7_isRun_9 : decode cX7_isRun 9 = .ok (.iconst 0, 1) := by decide +kernel
theorem dX7_isRun_10 : decode cX7_isRun 10 = .ok (.istore_n 2, 1) := by decide +kernel
theorem dX7_isRun_11 : decode cX7_isRun 11 = .ok (.iload_n 2, 1) := by decide +kernel
theorem dX7_isRun_12 : decode cX7_isRun 12 = .ok (.bipush 18, 2) := by decide +kernel
theorem dX7_isRun_14 : decode cX7_isRun 14 = .ok (.if_icmp .ge 21, 3) := by decide +kernel
theorem dX7_isRun_17 : decode cX7_isRun 17 = .ok (.aload_n 0, 1) := by decide +kernel
theorem dX7_isRun_18 : decode cX7_isRun 18 = .ok (.getfield 40, 3) := by decide +kernel
theorem dX7_isRun_21 : decode cX7_isRun 21 = .ok (.iload_n 2, 1) := by decide +kernel
theorem dX7_isRun_22 : decode cX7_isRun 22 = .ok (.aload_n 0, 1) := by decide +kernel
theorem dX7_isRun_23 : decode cX7_isRun 23 = .ok (.getfield 16, 3) := by decide +kernel
theorem dX7_isRun_26 : decode cX7_isRun 26 = .ok (.iload_n 2, 1) := by decide +kernel
theorem dX7_isRun_27 : decode cX7_isRun 27 = .ok (.iaload, 1) := by decide +kernel
theorem dX7_isRun_28 : decode cX7_isRun 28 = .ok (.iastore, 1) := by decide +kernel
theorem dX7_isRun_29 : decode cX7_isRun 29 = .ok (.iinc 2 1, 3) := by decide +kernel
theorem dX7_isRun_32 : decode cX7_isRun 32 = .ok (.goto (-21), 3) := by decide +kernel
theorem dX7_isRun_35 : decode cX7_isRun 35 = .ok (.aload_n 0, 1) := by decide +kernel
theorem dX7_isRun_36 : decode cX7_isRun 36 = .ok (.iconst 0, 1) := by decide +kernel
theorem dX7_isRun_37 : decode cX7_isRun 37 = .ok (.putfield 277, 3) := by decide +kernel
theorem dX7_isRun_40 : decode cX7_isRun 40 = .ok (.aload_n 0, 1) := by decide +kernel
theorem dX7_isRun_41 : decode cX7_isRun 41 = .ok (.iconst 0, 1) := by decide +kernel
theorem dX7_isRun_42 : decode cX7_isRun 42 = .ok (.putfield 280, 3) := by decide +kernel
theorem dX7_isRun_45 : decode cX7_isRun 45 = .ok (.iconst 0, 1) := by decide +kernel
theorem dX7_isRun_46 : decode cX7_isRun 46 = .ok (.istore_n 2, 1) := by decide +kernel
theorem dX7_isRun_47 : decode cX7_isRun 47 = .ok (.iload_n 2, 1) := by decide +kernel
theorem dX7_isRun_48 : decode cX7_isRun 48 = .ok (.aload_n 0, 1) := by decide +kernel
theorem dX7_isRun_49 : decode cX7_isRun 49 = .ok (.getfield 203, 3) := by decide +kernel
theorem dX7_isRun_52 : decode cX7_isRun 52 = .ok (.if_icmp .ge 70, 3) := by decide +kernel
theorem dX7_isRun_55 : decode cX7_isRun 55 = .ok (.aload_n 0, 1) := by decide +kernel
theorem dX7_isRun_56 : decode cX7_isRun 56 = .ok (.iload_n 1, 1) := by decide +kernel
theorem dX7_isRun_57 : decode cX7_isRun 57 = .ok (.iload_n 2, 1) := by decide +kernel
theorem dX7_isRun_58 : decode cX7_isRun 58 = .ok (.invokevirtual 283, 3) := by decide +kernel
theorem dX7_isRun_61 : decode cX7_isRun 61 = .ok (.istore_n 3, 1) := by decide +kernel
theorem dX7_isRun_62 : decode cX7_isRun 62 = .ok (.aload_n 0, 1) := by decide +kernel
theorem dX7_isRun_63 : decode cX7_isRun 63 = .ok (.iload_n 3, 1) := by decide +kernel
theorem dX7_isRun_64 : decode cX7_isRun 64 = .ok (.invokevirtual 286, 3) := by decide +kernel
theorem dX7_isRun_67 : decode cX7_isRun 67 = .ok (.istore 4, 2) := by decide +kernel
theorem dX7_isRun_69 : decode cX7_isRun 69 = .ok (.iload 4, 2) := by decide +kernel
theorem dX7_isRun_71 : decode cX7_isRun 71 = .ok (.iconst 2, 1) := by decide +kernel
theorem dX7_isRun_72 : decode cX7_isRun 72 = .ok (.if_icmp .ne 5, 3) := by decide +kernel
theorem dX7_isRun_75 : decode cX7_isRun 75 = .ok (.iconst 0, 1) := by decide +kernel
theorem dX7_isRun_76 : decode cX7_isRun 76 = .ok (.ireturn, 1) := by decide +kernel
theorem dX7_isRun_77 : decode cX7_isRun 77 = .ok (.aload_n 0, 1) := by decide +kernel
theorem dX7_isRun_78 : decode cX7_isRun 78 = .ok (.dup, 1) := by decide +kernel
theorem dX7_isRun_79 : decode cX7_isRun 79 = .ok (.getfield 280, 3) := by decide +kernel
theorem dX7_isRun_82 : decode cX7_isRun 82 = .ok (.aload_n 0, 1) := by decide +kernel
theorem dX7_isRun_83 : decode cX7_isRun 83 = .ok (.getfield 268, 3) := by decide +kernel
theorem dX7_isRun_86 : decode cX7_isRun 86 = .ok (.iadd, 1) := by decide +kernel
theorem dX7_isRun_87 : decode cX7_isRun 87 = .ok (.putfield 280, 3) := by decide +kernel
theorem dX7_isRun_90 : decode cX7_isRun 90 = .ok (.iload 4, 2) := by decide +kernel
theorem dX7_isRun_92 : decode cX7_isRun 92 = .ok (.iconst 1, 1) := by decide +kernel
theorem dX7_isRun_93 : decode cX7_isRun 93 = .ok (.if_icmp .ne 23, 3) := by decide +kernel
theorem dX7_isRun_96 : decode cX7_isRun 96 = .ok (.aload_n 0, 1) := by decide +kernel
theorem dX7_isRun_97 : decode cX7_isRun 97 = .ok (.getfield 67, 3) := by decide +kernel
theorem dX7_isRun_100 : decode cX7_isRun 100 = .ok (.aload_n 0, 1) := by decide +kernel
theorem dX7_isRun_101 : decode cX7_isRun 101 = .ok (.getfield 277, 3) := by decide +kernel
theorem dX7_isRun_104 : decode cX7_isRun 104 = .ok (.iload_n 3, 1) := by decide +kernel
theorem dX7_isRun_105 : decode cX7_isRun 105 = .ok (.iastore, 1) := by decide +kernel
theorem dX7_isRun_106 : decode cX7_isRun 106 = .ok (.aload_n 0, 1) := by decide +kernel
theorem dX7_isRun_107 : decode cX7_isRun 107 = .ok (.dup, 1) := by decide +kernel
theorem dX7_isRun_108 : decode cX7_isRun 108 = .ok (.getfield 277, 3) := by decide +kernel
theorem dX7_isRun_111 : decode cX7_isRun 111 = .ok (.iconst 1, 1) := by decide +kernel
theorem dX7_isRun_112 : decode cX7_isRun 112 = .ok (.iadd, 1) := by decide +kernel
theorem dX7_isRun_113 : decode cX7_isRun 113 = .ok (.putfield 277, 3) := by decide +kernel
theorem dX7_isRun_116 : decode cX7_isRun 116 = .ok (.iinc 2 1, 3) := by decide +kernel
theorem dX7_isRun_119 : decode cX7_isRun 119 = .ok (.goto (-72), 3) := by decide +kernel
theorem dX7_isRun_122 : decode cX7_isRun 122 = .ok (.iconst 1, 1) := by decide +kernel
theorem dX7_isRun_123 : decode cX7_isRun 123 = .ok (.ireturn, 1) := by decide +kernel
theorem dX7_run_0 : decode cX7_run 0 = .ok (.iload_n 1, 1) := by decide +kernel
theorem dX7_run_1 : decode cX7_run 1 = .ok (.i2l, 1) := by decide +kernel
theorem dX7_run_2 : decode cX7_run 2 = .ok (.lconst 0, 1) := by decide +kernel
theorem dX7_run_3 : decode cX7_run 3 = .ok (.ldc2_w 289, 3) := by decide +kernel
theorem dX7_run_6 : decode cX7_run 6 = .ok (.invokestatic 79, 3) := by decide +kernel
theorem dX7_run_9 : decode cX7_run 9 = .ok (.ifCond .eq 15, 3) := by decide +kernel
theorem dX7_run_12 : decode cX7_run 12 = .ok (.iload_n 2, 1) := by decide +kernel
theorem dX7_run_13 : decode cX7_run 13 = .ok (.i2l, 1) := by decide +kernel
theorem dX7_run_14 : decode cX7_run 14 = .ok (.lconst 0, 1) := by decide +kernel
theorem dX7_run_15 : decode cX7_run 15 = .ok (.ldc2_w 291, 3) := by decide +kernel
theorem dX7_run_18 : decode cX7_run 18 = .ok (.invokestatic 79, 3) := by decide +kernel
theorem dX7_run_21 : decode cX7_run 21 = .ok (.ifCond .ne 6, 3) := by decide +kernel
theorem dX7_run_24 : decode cX7_run 24 = .ok (.bipush (-2), 2) := by decide +kernel
theorem dX7_run_26 : decode cX7_run 26 = .ok (.ireturn, 1) := by decide +kernel
theorem dX7_run_27 : decode cX7_run 27 = .ok (.aload_n 0, 1) := by decide +kernel
theorem dX7_run_28 : decode cX7_run 28 = .ok (.iload_n 1, 1) := by decide +kernel
theorem dX7_run_29 : decode cX7_run 29 = .ok (.invokevirtual 293, 3) := by decide +kernel
theorem dX7_run_32 : decode cX7_run 32 = .ok (.ifCond .ne 6, 3) := by decide +kernel
theorem dX7_run_35 : decode cX7_run 35 = .ok (.bipush (-3), 2) := by decide +kernel
theorem dX7_run_37 : decode cX7_run 37 = .ok (.ireturn, 1) := by decide +kernel
theorem dX7_run_38 : decode cX7_run 38 = .ok (.iload_n 2, 1) := by decide +kernel
theorem dX7_run_39 : decode cX7_run 39 = .ok (.bipush 18, 2) := by decide +kernel
theorem dX7_run_41 : decode cX7_run 41 = .ok (.if_icmp .ge 12, 3) := by decide +kernel
theorem dX7_run_44 : decode cX7_run 44 = .ok (.aload_n 0, 1) := by decide +kernel
theorem dX7_run_45 : decode cX7_run 45 = .ok (.getfield 40, 3) := by decide +kernel
theorem dX7_run_48 : decode cX7_run 48 = .ok (.iload_n 2, 1) := by decide +kernel
theorem dX7_run_49 : decode cX7_run 49 = .ok (.iaload, 1) := by decide +kernel
theorem dX7_run_50 : decode cX7_run 50 = .ok (.goto 20, 3) := by decide +kernel
theorem dX7_run_53 : decode cX7_run 53 = .ok (.iload_n 2, 1) := by decide +kernel
theorem dX7_run_54 : decode cX7_run 54 = .ok (.bipush 18, 2) := by decide +kernel
theorem dX7_run_56 : decode cX7_run 56 = .ok (.if_icmp .ne 10, 3) := by decide +kernel
theorem dX7_run_59 : decode cX7_run 59 = .ok (.aload_n 0, 1) := by decide +kernel
theorem dX7_run_60 : decode cX7_run 60 = .ok (.getfield 277, 3) := by decide +kernel
theorem dX7_run_63 : decode cX7_run 63 = .ok (.goto 7, 3) := by decide +kernel
theorem dX7_run_66 : decode cX7_run 66 = .ok (.aload_n 0, 1) := by decide +kernel
theorem dX7_run_67 : decode cX7_run 67 = .ok (.getfield 280, 3) := by decide +kernel
theorem dX7_run_70 : decode cX7_run 70 = .ok (.ireturn, 1) := by decide +kernel
theorem dX7_thrower_0 : decode cX7_thrower 0 = .ok (.iload_n 1, 1) := by decide +kernel
theorem dX7_thrower_1 : decode cX7_thrower 1 = .ok (.i2l, 1) := by decide +kernel
theorem dX7_thrower_2 : decode cX7_thrower 2 = .ok (.lconst 0, 1) := by decide +kernel
theorem dX7_thrower_3 : decode cX7_thrower 3 = .ok (.ldc2_w 289, 3) := by decide +kernel
theorem dX7_thrower_6 : decode cX7_thrower 6 = .ok (.invokestatic 79, 3) := by decide +kernel
theorem dX7_thrower_9 : decode cX7_thrower 9 = .ok (.ifCond .ne 6, 3) := by decide +kernel
theorem dX7_thrower_12 : decode cX7_thrower 12 = .ok (.bipush (-2), 2) := by decide +kernel
theorem dX7_thrower_14 : decode cX7_thrower 14 = .ok (.ireturn, 1) := by decide +kernel
theorem dX7_thrower_15 : decode cX7_thrower 15 = .ok (.aload_n 0, 1) := by decide +kernel
theorem dX7_thrower_16 : decode cX7_thrower 16 = .ok (.iload_n 1, 1) := by decide +kernel
theorem dX7_thrower_17 : decode cX7_thrower 17 = .ok (.invokevirtual 293, 3) := by decide +kernel
theorem dX7_thrower_20 : decode cX7_thrower 20 = .ok (.ifCond .ne 6, 3) := by decide +kernel
theorem dX7_thrower_23 : decode cX7_thrower 23 = .ok (.bipush (-3), 2) := by decide +kernel
theorem dX7_thrower_25 : decode cX7_thrower 25 = .ok (.ireturn, 1) := by decide +kernel
theorem dX7_thrower_26 : decode cX7_thrower 26 = .ok (.iload_n 2, 1) := by decide +kernel
theorem dX7_thrower_27 : decode cX7_thrower 27 = .ok (.i2l, 1) := by decide +kernel
theorem dX7_thrower_28 : decode cX7_thrower 28 = .ok (.lconst 0, 1) := by decide +kernel
theorem dX7_thrower_29 : decode cX7_thrower 29 = .ok (.aload_n 0, 1) := by decide +kernel
theorem dX7_thrower_30 : decode cX7_thrower 30 = .ok (.getfield 277, 3) := by decide +kernel
theorem dX7_thrower_33 : decode cX7_thrower 33 = .ok (.iconst 1, 1) := by decide +kernel
theorem dX7_thrower_34 : decode cX7_thrower 34 = .ok (.isub, 1) := by decide +kernel
theorem dX7_thrower_35 : decode cX7_thrower 35 = .ok (.i2l, 1) := by decide +kernel
theorem dX7_thrower_36 : decode cX7_thrower 36 = .ok (.invokestatic 79, 3) := by decide +kernel
theorem dX7_thrower_39 : decode cX7_thrower 39 = .ok (.ifCond .eq 12, 3) := by decide +kernel
theorem dX7_thrower_42 : decode cX7_thrower 42 = .ok (.aload_n 0, 1) := by decide +kernel
theorem dX7_thrower_43 : decode cX7_thrower 43 = .ok (.getfield 67, 3) := by decide +kernel
theorem dX7_thrower_46 : decode cX7_thrower 46 = .ok (.iload_n 2, 1) := by decide +kernel
theorem dX7_thrower_47 : decode cX7_thrower 47 = .ok (.iaload, 1) := by decide +kernel
theorem dX7_thrower_48 : decode cX7_thrower 48 = .ok (.goto 5, 3) := by decide +kernel
theorem dX7_thrower_51 : decode cX7_thrower 51 = .ok (.bipush (-6), 2) := by decide +kernel
theorem dX7_thrower_53 : decode cX7_thrower 53 = .ok (.ireturn, 1) := by decide +kernel
theorem dX7_commit_0 : decode cX7_commit 0 = .ok (.aload_n 0, 1) := by decide +kernel
theorem dX7_commit_1 : decode cX7_commit 1 = .ok (.iconst 0, 1) := by decide +kernel
theorem dX7_commit_2 : decode cX7_commit 2 = .ok (.invokevirtual 293, 3) := by decide +kernel
theorem dX7_commit_5 : decode cX7_commit 5 = .ok (.ifCond .ne 6, 3) := by decide +kernel
theorem dX7_commit_8 : decode cX7_commit 8 = .ok (.bipush (-3), 2) := by decide +kernel
theorem dX7_commit_10 : decode cX7_commit 10 = .ok (.ireturn, 1) := by decide +kernel
theorem dX7_commit_11 : decode cX7_commit 11 = .ok (.iconst 0, 1) := by decide +kernel
theorem dX7_commit_12 : decode cX7_commit 12 = .ok (.istore_n 1, 1) := by decide +kernel
theorem dX7_commit_13 : decode cX7_commit 13 = .ok (.iload_n 1, 1) := by decide +kernel
theorem dX7_commit_14 : decode cX7_commit 14 = .ok (.bipush 18, 2) := by decide +kernel
theorem dX7_commit_16 : decode cX7_commit 16 = .ok (.if_icmp .ge 21, 3) := by decide +kernel
theorem dX7_commit_19 : decode cX7_commit 19 = .ok (.aload_n 0, 1) := by decide +kernel
theorem dX7_commit_20 : decode cX7_commit 20 = .ok (.getfield 16, 3) := by decide +kernel
theorem dX7_commit_23 : decode cX7_commit 23 = .ok (.iload_n 1, 1) := by decide +kernel
theorem dX7_commit_24 : decode cX7_commit 24 = .ok (.aload_n 0, 1) := by decide +kernel
theorem dX7_commit_25 : decode cX7_commit 25 = .ok (.getfield 40, 3) := by decide +kernel
theorem dX7_commit_28 : decode cX7_commit 28 = .ok (.iload_n 1, 1) := by decide +kernel
theorem dX7_commit_29 : decode cX7_commit 29 = .ok (.iaload, 1) := by decide +kernel
theorem dX7_commit_30 : decode cX7_commit 30 = .ok (.iastore, 1) := by decide +kernel
theorem dX7_commit_31 : decode cX7_commit 31 = .ok (.iinc 1 1, 3) := by decide +kernel
theorem dX7_commit_34 : decode cX7_commit 34 = .ok (.goto (-21), 3) := by decide +kernel
theorem dX7_commit_37 : decode cX7_commit 37 = .ok (.aload_n 0, 1) := by decide +kernel
theorem dX7_commit_38 : decode cX7_commit 38 = .ok (.iconst 0, 1) := by decide +kernel
theorem dX7_commit_39 : decode cX7_commit 39 = .ok (.putfield 203, 3) := by decide +kernel
theorem dX7_commit_42 : decode cX7_commit 42 = .ok (.aload_n 0, 1) := by decide +kernel
theorem dX7_commit_43 : decode cX7_commit 43 = .ok (.getfield 277, 3) := by decide +kernel
theorem dX7_commit_46 : decode cX7_commit 46 = .ok (.ireturn, 1) := by decide +kernel
theorem dX7_passRow_0 : decode cX7_passRow 0 = .ok (.iconst 0, 1) := by decide +kernel
theorem dX7_passRow_1 : decode cX7_passRow 1 = .ok (.istore_n 3, 1) := by decide +kernel
theorem dX7_passRow_2 : decode cX7_passRow 2 = .ok (.iload_n 3, 1) := by decide +kernel
theorem dX7_passRow_3 : decode cX7_passRow 3 = .ok (.iload_n 2, 1) := by decide +kernel
theorem dX7_passRow_4 : decode cX7_passRow 4 = .ok (.if_icmp .ge 56, 3) := by decide +kernel
theorem dX7_passRow_7 : decode cX7_passRow 7 = .ok (.aload_n 1, 1) := by decide +kernel
theorem dX7_passRow_8 : decode cX7_passRow 8 = .ok (.iload_n 3, 1) := by decide +kernel
theorem dX7_passRow_9 : decode cX7_passRow 9 = .ok (.aload_n 0, 1) := by decide +kernel
theorem dX7_passRow_10 : decode cX7_passRow 10 = .ok (.getfield 296, 3) := by decide +kernel
theorem dX7_passRow_13 : decode cX7_passRow 13 = .ok (.ifCond .eq 9, 3) := by decide +kernel
theorem dX7_passRow_16 : decode cX7_passRow 16 = .ok (.aload_n 1, 1) := by decide +kernel
theorem dX7_passRow_17 : decode cX7_passRow 17 = .ok (.iload_n 3, 1) := by decide +kernel
theorem dX7_passRow_18 : decode cX7_passRow 18 = .ok (.iaload, 1) := by decide +kernel
theorem dX7_passRow_19 : decode cX7_passRow 19 = .ok (.goto 12, 3) := by decide +kernel
theorem dX7_passRow_22 : decode cX7_passRow 22 = .ok (.aload_n 0, 1) := by decide +kernel
theorem dX7_passRow_23 : decode cX7_passRow 23 = .ok (.getfield 70, 3) := by decide +kernel
theorem dX7_passRow_26 : decode cX7_passRow 26 = .ok (.aload_n 0, 1) := by decide +kernel
theorem dX7_passRow_27 : decode cX7_passRow 27 = .ok (.getfield 299, 3) := by decide +kernel
theorem dX7_passRow_30 : decode cX7_passRow 30 = .ok (.iaload, 1) := by decide +kernel
theorem dX7_passRow_31 : decode cX7_passRow 31 = .ok (.iastore, 1) := by decide +kernel
theorem dX7_passRow_32 : decode cX7_passRow 32 = .ok (.aload_n 0, 1) := by decide +kernel
theorem dX7_passRow_33 : decode cX7_passRow 33 = .ok (.getfield 70, 3) := by decide +kernel
theorem dX7_passRow_36 : decode cX7_passRow 36 = .ok (.aload_n 0, 1) := by decide +kernel
theorem dX7_passRow_37 : decode cX7_passRow 37 = .ok (.getfield 299, 3) := by decide +kernel
theorem dX7_passRow_40 : decode cX7_passRow 40 = .ok (.aload_n 1, 1) := by decide +kernel
theorem dX7_passRow_41 : decode cX7_passRow 41 = .ok (.iload_n 3, 1) := by decide +kernel
theorem dX7_passRow_42 : decode cX7_passRow 42 = .ok (.iaload, 1) := by decide +kernel
theorem dX7_passRow_43 : decode cX7_passRow 43 = .ok (.iastore, 1) := by decide +kernel
theorem dX7_passRow_44 : decode cX7_passRow 44 = .ok (.aload_n 0, 1) := by decide +kernel
theorem dX7_passRow_45 : decode cX7_passRow 45 = .ok (.dup, 1) := by decide +kernel
theorem dX7_passRow_46 : decode cX7_passRow 46 = .ok (.getfield 299, 3) := by decide +kernel
theorem dX7_passRow_49 : decode cX7_passRow 49 = .ok (.iconst 1, 1) := by decide +kernel
theorem dX7_passRow_50 : decode cX7_passRow 50 = .ok (.iadd, 1) := by decide +kernel
theorem dX7_passRow_51 : decode cX7_passRow 51 = .ok (.putfield 299, 3) := by decide +kernel
theorem dX7_passRow_54 : decode cX7_passRow 54 = .ok (.iinc 3 1, 3) := by decide +kernel
theorem dX7_passRow_57 : decode cX7_passRow 57 = .ok (.goto (-55), 3) := by decide +kernel
theorem dX7_passRow_60 : decode cX7_passRow 60 = .ok (.return_, 1) := by decide +kernel
theorem dX7_passAll_0 : decode cX7_passAll 0 = .ok (.aload_n 0, 1) := by decide +kernel
theorem dX7_passAll_1 : decode cX7_passAll 1 = .ok (.aload_n 0, 1) := by decide +kernel
theorem dX7_passAll_2 : decode cX7_passAll 2 = .ok (.getfield 16, 3) := by decide +kernel
theorem dX7_passAll_5 : decode cX7_passAll 5 = .ok (.bipush 18, 2) := by decide +kernel
theorem dX7_passAll_7 : decode cX7_passAll 7 = .ok (.invokevirtual 302, 3) := by decide +kernel
theorem dX7_passAll_10 : decode cX7_passAll 10 = .ok (.aload_n 0, 1) := by decide +kernel
theorem dX7_passAll_11 : decode cX7_passAll 11 = .ok (.aload_n 0, 1) := by decide +kernel
theorem dX7_passAll_12 : decode cX7_passAll 12 = .ok (.getfield 19, 3) := by decide +kernel
theorem dX7_passAll_15 : decode cX7_passAll 15 = .ok (.bipush 16, 2) := by decide +kernel
theorem dX7_passAll_17 : decode cX7_passAll 17 = .ok (.invokevirtual 302, 3) := by decide +kernel
theorem dX7_passAll_20 : decode cX7_passAll 20 = .ok (.aload_n 0, 1) := by decide +kernel
theorem dX7_passAll_21 : decode cX7_passAll 21 = .ok (.aload_n 0, 1) := by decide +kernel
theorem dX7_passAll_22 : decode cX7_passAll 22 = .ok (.getfield 22, 3) := by decide +kernel
theorem dX7_passAll_25 : decode cX7_passAll 25 = .ok (.bipush 16, 2) := by decide +kernel
theorem dX7_passAll_27 : decode cX7_passAll 27 = .ok (.invokevirtual 302, 3) := by decide +kernel
theorem dX7_passAll_30 : decode cX7_passAll 30 = .ok (.aload_n 0, 1) := by decide +kernel
theorem dX7_passAll_31 : decode cX7_passAll 31 = .ok (.aload_n 0, 1) := by decide +kernel
theorem dX7_passAll_32 : decode cX7_passAll 32 = .ok (.getfield 296, 3) := by decide +kernel
theorem dX7_passAll_35 : decode cX7_passAll 35 = .ok (.ifCond .eq 10, 3) := by decide +kernel
theorem dX7_passAll_38 : decode cX7_passAll 38 = .ok (.aload_n 0, 1) := by decide +kernel
theorem dX7_passAll_39 : decode cX7_passAll 39 = .ok (.getfield 203, 3) := by decide +kernel
theorem dX7_passAll_42 : decode cX7_passAll 42 = .ok (.goto 12, 3) := by decide +kernel
theorem dX7_passAll_45 : decode cX7_passAll 45 = .ok (.aload_n 0, 1) := by decide +kernel
theorem dX7_passAll_46 : decode cX7_passAll 46 = .ok (.getfield 70, 3) := by decide +kernel
theorem dX7_passAll_49 : decode cX7_passAll 49 = .ok (.aload_n 0, 1) := by decide +kernel
theorem dX7_passAll_50 : decode cX7_passAll 50 = .ok (.getfield 299, 3) := by decide +kernel
theorem dX7_passAll_53 : decode cX7_passAll 53 = .ok (.iaload, 1) := by decide +kernel
theorem dX7_passAll_54 : decode cX7_passAll 54 = .ok (.putfield 203, 3) := by decide +kernel
theorem dX7_passAll_57 : decode cX7_passAll 57 = .ok (.aload_n 0, 1) := by decide +kernel
theorem dX7_passAll_58 : decode cX7_passAll 58 = .ok (.getfield 70, 3) := by decide +kernel
theorem dX7_passAll_61 : decode cX7_passAll 61 = .ok (.aload_n 0, 1) := by decide +kernel
theorem dX7_passAll_62 : decode cX7_passAll 62 = .ok (.getfield 299, 3) := by decide +kernel
theorem dX7_passAll_65 : decode cX7_passAll 65 = .ok (.aload_n 0, 1) := by decide +kernel
theorem dX7_passAll_66 : decode cX7_passAll 66 = .ok (.getfield 203, 3) := by decide +kernel
theorem dX7_passAll_69 : decode cX7_passAll 69 = .ok (.iastore, 1) := by decide +kernel
theorem dX7_passAll_70 : decode cX7_passAll 70 = .ok (.return_, 1) := by decide +kernel
theorem dX7_image_0 : decode cX7_image 0 = .ok (.iload_n 1, 1) := by decide +kernel
theorem dX7_image_1 : decode cX7_image 1 = .ok (.i2l, 1) := by decide +kernel
theorem dX7_image_2 : decode cX7_image 2 = .ok (.lconst 0, 1) := by decide +kernel
theorem dX7_image_3 : decode cX7_image 3 = .ok (.lconst 1, 1) := by decide +kernel
theorem dX7_image_4 : decode cX7_image 4 = .ok (.invokestatic 79, 3) := by decide +kernel
theorem dX7_image_7 : decode cX7_image 7 = .ok (.ifCond .ne 6, 3) := by decide +kernel
theorem dX7_image_10 : decode cX7_image 10 = .ok (.bipush (-2), 2) := by decide +kernel
theorem dX7_image_12 : decode cX7_image 12 = .ok (.ireturn, 1) := by decide +kernel
theorem dX7_image_13 : decode cX7_image 13 = .ok (.aload_n 0, 1) := by decide +kernel
theorem dX7_image_14 : decode cX7_image 14 = .ok (.bipush 51, 2) := by decide +kernel
theorem dX7_image_16 : decode cX7_image 16 = .ok (.iload_n 1, 1) := by decide +kernel
theorem dX7_image_17 : decode cX7_image 17 = .ok (.imul, 1) := by decide +kernel
theorem dX7_image_18 : decode cX7_image 18 = .ok (.putfield 299, 3) := by decide +kernel
theorem dX7_image_21 : decode cX7_image 21 = .ok (.aload_n 0, 1) := by decide +kernel
theorem dX7_image_22 : decode cX7_image 22 = .ok (.iconst 1, 1) := by decide +kernel
theorem dX7_image_23 : decode cX7_image 23 = .ok (.putfield 296, 3) := by decide +kernel
theorem dX7_image_26 : decode cX7_image 26 = .ok (.aload_n 0, 1) := by decide +kernel
theorem dX7_image_27 : decode cX7_image 27 = .ok (.invokevirtual 305, 3) := by decide +kernel
theorem dX7_image_30 : decode cX7_image 30 = .ok (.aload_n 0, 1) := by decide +kernel
theorem dX7_image_31 : decode cX7_image 31 = .ok (.getfield 73, 3) := by decide +kernel
theorem dX7_image_34 : decode cX7_image 34 = .ok (.iload_n 1, 1) := by decide +kernel
theorem dX7_image_35 : decode cX7_image 35 = .ok (.iconst 1, 1) := by decide +kernel
theorem dX7_image_36 : decode cX7_image 36 = .ok (.bastore, 1) := by decide +kernel
theorem dX7_image_37 : decode cX7_image 37 = .ok (.iconst 1, 1) := by decide +kernel
theorem dX7_image_38 : decode cX7_image 38 = .ok (.ireturn, 1) := by decide +kernel
theorem dX7_restore_0 : decode cX7_restore 0 = .ok (.iload_n 1, 1) := by decide +kernel
theorem dX7_restore_1 : decode cX7_restore 1 = .ok (.i2l, 1) := by decide +kernel
theorem dX7_restore_2 : decode cX7_restore 2 = .ok (.lconst 0, 1) := by decide +kernel
theorem dX7_restore_3 : decode cX7_restore 3 = .ok (.lconst 1, 1) := by decide +kernel
theorem dX7_restore_4 : decode cX7_restore 4 = .ok (.invokestatic 79, 3) := by decide +kernel
theorem dX7_restore_7 : decode cX7_restore 7 = .ok (.ifCond .ne 6, 3) := by decide +kernel
theorem dX7_restore_10 : decode cX7_restore 10 = .ok (.bipush (-2), 2) := by decide +kernel
theorem dX7_restore_12 : decode cX7_restore 12 = .ok (.ireturn, 1) := by decide +kernel
theorem dX7_restore_13 : decode cX7_restore 13 = .ok (.aload_n 0, 1) := by decide +kernel
theorem dX7_restore_14 : decode cX7_restore 14 = .ok (.getfield 73, 3) := by decide +kernel
theorem dX7_restore_17 : decode cX7_restore 17 = .ok (.iload_n 1, 1) := by decide +kernel
theorem dX7_restore_18 : decode cX7_restore 18 = .ok (.baload, 1) := by decide +kernel
theorem dX7_restore_19 : decode cX7_restore 19 = .ok (.ifCond .ne 6, 3) := by decide +kernel
theorem dX7_restore_22 : decode cX7_restore 22 = .ok (.bipush (-3), 2) := by decide +kernel
theorem dX7_restore_24 : decode cX7_restore 24 = .ok (.ireturn, 1) := by decide +kernel
theorem dX7_restore_25 : decode cX7_restore 25 = .ok (.aload_n 0, 1) := by decide +kernel
theorem dX7_restore_26 : decode cX7_restore 26 = .ok (.bipush 51, 2) := by decide +kernel
theorem dX7_restore_28 : decode cX7_restore 28 = .ok (.iload_n 1, 1) := by decide +kernel
theorem dX7_restore_29 : decode cX7_restore 29 = .ok (.imul, 1) := by decide +kernel
theorem dX7_restore_30 : decode cX7_restore 30 = .ok (.putfield 299, 3) := by decide +kernel
theorem dX7_restore_33 : decode cX7_restore 33 = .ok (.aload_n 0, 1) := by decide +kernel
theorem dX7_restore_34 : decode cX7_restore 34 = .ok (.iconst 0, 1) := by decide +kernel
theorem dX7_restore_35 : decode cX7_restore 35 = .ok (.putfield 296, 3) := by decide +kernel
theorem dX7_restore_38 : decode cX7_restore 38 = .ok (.aload_n 0, 1) := by decide +kernel
theorem dX7_restore_39 : decode cX7_restore 39 = .ok (.invokevirtual 305, 3) := by decide +kernel
theorem dX7_restore_42 : decode cX7_restore 42 = .ok (.iconst 1, 1) := by decide +kernel
theorem dX7_restore_43 : decode cX7_restore 43 = .ok (.ireturn, 1) := by decide +kernel
theorem dX7_statementsOf_0 : decode cX7_statementsOf 0 = .ok (.iconst 0, 1) := by decide +kernel
theorem dX7_statementsOf_1 : decode cX7_statementsOf 1 = .ok (.istore_n 2, 1) := by decide +kernel
theorem dX7_statementsOf_2 : decode cX7_statementsOf 2 = .ok (.aload_n 0, 1) := by decide +kernel
theorem dX7_statementsOf_3 : decode cX7_statementsOf 3 = .ok (.iload_n 1, 1) := by decide +kernel
theorem dX7_statementsOf_4 : decode cX7_statementsOf 4 = .ok (.invokevirtual 149, 3) := by decide +kernel
theorem dX7_statementsOf_7 : decode cX7_statementsOf 7 = .ok (.aload_n 0, 1) := by decide +kernel
theorem dX7_statementsOf_8 : decode cX7_statementsOf 8 = .ok (.invokevirtual 153, 3) := by decide +kernel
theorem dX7_statementsOf_11 : decode cX7_statementsOf 11 = .ok (.ifCond .eq 20, 3) := by decide +kernel
theorem dX7_statementsOf_14 : decode cX7_statementsOf 14 = .ok (.aload_n 0, 1) := by decide +kernel
theorem dX7_statementsOf_15 : decode cX7_statementsOf 15 = .ok (.iconst 0, 1) := by decide +kernel
theorem dX7_statementsOf_16 : decode cX7_statementsOf 16 = .ok (.invokevirtual 156, 3) := by decide +kernel
theorem dX7_statementsOf_19 : decode cX7_statementsOf 19 = .ok (.ifCond .ne 6, 3) := by decide +kernel
theorem dX7_statementsOf_22 : decode cX7_statementsOf 22 = .ok (.bipush (-6), 2) := by decide +kernel
theorem dX7_statementsOf_24 : decode cX7_statementsOf 24 = .ok (.ireturn, 1) := by decide +kernel
theorem dX7_statementsOf_25 : decode cX7_statementsOf 25 = .ok (.iinc 2 1, 3) := by decide +kernel
theorem dX7_statementsOf_28 : decode cX7_statementsOf 28 = .ok (.goto (-21), 3) := by decide +kernel
theorem dX7_statementsOf_31 : decode cX7_statementsOf 31 = .ok (.iload_n 2, 1) := by decide +kernel
theorem dX7_statementsOf_32 : decode cX7_statementsOf 32 = .ok (.ireturn, 1) := by decide +kernel
theorem dX7_count_0 : decode cX7_count 0 = .ok (.iload_n 1, 1) := by decide +kernel
theorem dX7_count_1 : decode cX7_count 1 = .ok (.ifCond .ne 8, 3) := by decide +kernel
theorem dX7_count_4 : decode cX7_count 4 = .ok (.aload_n 0, 1) := by decide +kernel
theorem dX7_count_5 : decode cX7_count 5 = .ok (.getfield 203, 3) := by decide +kernel
theorem dX7_count_8 : decode cX7_count 8 = .ok (.ireturn, 1) := by decide +kernel
theorem dX7_count_9 : decode cX7_count 9 = .ok (.iload_n 1, 1) := by decide +kernel
theorem dX7_count_10 : decode cX7_count 10 = .ok (.i2l, 1) := by decide +kernel
theorem dX7_count_11 : decode cX7_count 11 = .ok (.ldc2_w 308, 3) := by decide +kernel
theorem dX7_count_14 : decode cX7_count 14 = .ok (.ldc2_w 310, 3) := by decide +kernel
theorem dX7_count_17 : decode cX7_count 17 = .ok (.invokestatic 79, 3) := by decide +kernel
theorem dX7_count_20 : decode cX7_count 20 = .ok (.ifCond .eq 13, 3) := by decide +kernel
theorem dX7_count_23 : decode cX7_count 23 = .ok (.iload_n 1, 1) := by decide +kernel
theorem dX7_count_24 : decode cX7_count 24 = .ok (.bipush 10, 2) := by decide +kernel
theorem dX7_count_26 : decode cX7_count 26 = .ok (.irem, 1) := by decide +kernel
theorem dX7_count_27 : decode cX7_count 27 = .ok (.invokestatic 87, 3) := by decide +kernel
theorem dX7_count_30 : decode cX7_count 30 = .ok (.ifCond .ne 6, 3) := by decide +kernel
theorem dX7_count_33 : decode cX7_count 33 = .ok (.bipush (-2), 2) := by decide +kernel
theorem dX7_count_35 : decode cX7_count 35 = .ok (.ireturn, 1) := by decide +kernel
theorem dX7_count_36 : decode cX7_count 36 = .ok (.iload_n 1, 1) := by decide +kernel
theorem dX7_count_37 : decode cX7_count 37 = .ok (.bipush 10, 2) := by decide +kernel
theorem dX7_count_39 : decode cX7_count 39 = .ok (.irem, 1) := by decide +kernel
theorem dX7_count_40 : decode cX7_count 40 = .ok (.istore_n 2, 1) := by decide +kernel
theorem dX7_count_41 : decode cX7_count 41 = .ok (.iload_n 1, 1) := by decide +kernel
theorem dX7_count_42 : decode cX7_count 42 = .ok (.bipush 20, 2) := by decide +kernel
theorem dX7_count_44 : decode cX7_count 44 = .ok (.if_icmp .ge 10, 3) := by decide +kernel
theorem dX7_count_47 : decode cX7_count 47 = .ok (.aload_n 0, 1) := by decide +kernel
theorem dX7_count_48 : decode cX7_count 48 = .ok (.getfield 13, 3) := by decide +kernel
theorem dX7_count_51 : decode cX7_count 51 = .ok (.iload_n 2, 1) := by decide +kernel
theorem dX7_count_52 : decode cX7_count 52 = .ok (.iaload, 1) := by decide +kernel
theorem dX7_count_53 : decode cX7_count 53 = .ok (.ireturn, 1) := by decide +kernel
theorem dX7_count_54 : decode cX7_count 54 = .ok (.iload_n 1, 1) := by decide +kernel
theorem dX7_count_55 : decode cX7_count 55 = .ok (.bipush 30, 2) := by decide +kernel
theorem dX7_count_57 : decode cX7_count 57 = .ok (.if_icmp .ge 11, 3) := by decide +kernel
theorem dX7_count_60 : decode cX7_count 60 = .ok (.aload_n 0, 1) := by decide +kernel
theorem dX7_count_61 : decode cX7_count 61 = .ok (.iload_n 2, 1) := by decide +kernel
theorem dX7_count_62 : decode cX7_count 62 = .ok (.invokevirtual 312, 3) := by decide +kernel
theorem dX7_count_65 : decode cX7_count 65 = .ok (.goto 21, 3) := by decide +kernel
theorem dX7_count_68 : decode cX7_count 68 = .ok (.aload_n 0, 1) := by decide +kernel
theorem dX7_count_69 : decode cX7_count 69 = .ok (.iload_n 2, 1) := by decide +kernel
theorem dX7_count_70 : decode cX7_count 70 = .ok (.invokevirtual 159, 3) := by decide +kernel
theorem dX7_count_73 : decode cX7_count 73 = .ok (.ifCond .ge 11, 3) := by decide +kernel
theorem dX7_count_76 : decode cX7_count 76 = .ok (.aload_n 0, 1) := by decide +kernel
theorem dX7_count_77 : decode cX7_count 77 = .ok (.iload_n 2, 1) := by decide +kernel
theorem dX7_count_78 : decode cX7_count 78 = .ok (.invokevirtual 167, 3) := by decide +kernel
theorem dX7_count_81 : decode cX7_count 81 = .ok (.goto 5, 3) := by decide +kernel
theorem dX7_count_84 : decode cX7_count 84 = .ok (.bipush (-6), 2) := by decide +kernel
theorem dX7_count_86 : decode cX7_count 86 = .ok (.ireturn, 1) := by decide +kernel
theorem dJ9_floorMod_7cf53_0 : decode cJ9_floorMod_7cf53 0 = .ok (.iload_n 0, 1) := by decide +kernel
theorem dJ9_floorMod_7cf53_1 : decode cJ9_floorMod_7cf53 1 = .ok (.iload_n 1, 1) := by decide +kernel
theorem dJ9_floorMod_7cf53_2 : decode cJ9_floorMod_7cf53 2 = .ok (.irem, 1) := by decide +kernel
theorem dJ9_floorMod_7cf53_3 : decode cJ9_floorMod_7cf53 3 = .ok (.istore_n 2, 1) := by decide +kernel
theorem dJ9_floorMod_7cf53_4 : decode cJ9_floorMod_7cf53 4 = .ok (.iload_n 0, 1) := by decide +kernel
theorem dJ9_floorMod_7cf53_5 : decode cJ9_floorMod_7cf53 5 = .ok (.iload_n 1, 1) := by decide +kernel
theorem dJ9_floorMod_7cf53_6 : decode cJ9_floorMod_7cf53 6 = .ok (.ixor, 1) := by decide +kernel
theorem dJ9_floorMod_7cf53_7 : decode cJ9_floorMod_7cf53 7 = .ok (.ifCond .ge 11, 3) := by decide +kernel
theorem dJ9_floorMod_7cf53_10 : decode cJ9_floorMod_7cf53 10 = .ok (.iload_n 2, 1) := by decide +kernel
theorem dJ9_floorMod_7cf53_11 : decode cJ9_floorMod_7cf53 11 = .ok (.ifCond .eq 7, 3) := by decide +kernel
theorem dJ9_floorMod_7cf53_14 : decode cJ9_floorMod_7cf53 14 = .ok (.iload_n 2, 1) := by decide +kernel
theorem dJ9_floorMod_7cf53_15 : decode cJ9_floorMod_7cf53 15 = .ok (.iload_n 1, 1) := by decide +kernel
theorem dJ9_floorMod_7cf53_16 : decode cJ9_floorMod_7cf53 16 = .ok (.iadd, 1) := by decide +kernel
theorem dJ9_floorMod_7cf53_17 : decode cJ9_floorMod_7cf53 17 = .ok (.ireturn, 1) := by decide +kernel
theorem dJ9_floorMod_7cf53_18 : decode cJ9_floorMod_7cf53 18 = .ok (.iload_n 2, 1) := by decide +kernel
theorem dJ9_floorMod_7cf53_19 : decode cJ9_floorMod_7cf53 19 = .ok (.ireturn, 1) := by decide +kernel
theorem dJ9_max_7cf53_0 : decode cJ9_max_7cf53 0 = .ok (.iload_n 0, 1) := by decide +kernel
theorem dJ9_max_7cf53_1 : decode cJ9_max_7cf53 1 = .ok (.iload_n 1, 1) := by decide +kernel
theorem dJ9_max_7cf53_2 : decode cJ9_max_7cf53 2 = .ok (.if_icmp .lt 7, 3) := by decide +kernel
theorem dJ9_max_7cf53_5 : decode cJ9_max_7cf53 5 = .ok (.iload_n 0, 1) := by decide +kernel
theorem dJ9_max_7cf53_6 : decode cJ9_max_7cf53 6 = .ok (.goto 4, 3) := by decide +kernel
theorem dJ9_max_7cf53_9 : decode cJ9_max_7cf53 9 = .ok (.iload_n 1, 1) := by decide +kernel
theorem dJ9_max_7cf53_10 : decode cJ9_max_7cf53 10 = .ok (.ireturn, 1) := by decide +kernel
theorem dL_law_0 : decode cL_law 0 = .ok (.new 7, 3) := by decide +kernel
theorem dL_law_3 : decode cL_law 3 = .ok (.dup, 1) := by decide +kernel
theorem dL_law_4 : decode cL_law 4 = .ok (.invokespecial 9, 3) := by decide +kernel
theorem dL_law_7 : decode cL_law 7 = .ok (.astore_n 1, 1) := by decide +kernel
theorem dL_law_8 : decode cL_law 8 = .ok (.new 10, 3) := by decide +kernel
theorem dL_law_11 : decode cL_law 11 = .ok (.dup, 1) := by decide +kernel
theorem dL_law_12 : decode cL_law 12 = .ok (.invokespecial 12, 3) := by decide +kernel
theorem dL_law_15 : decode cL_law 15 = .ok (.astore_n 2, 1) := by decide +kernel
theorem dL_law_16 : decode cL_law 16 = .ok (.iconst 0, 1) := by decide +kernel
theorem dL_law_17 : decode cL_law 17 = .ok (.istore_n 3, 1) := by decide +kernel
theorem dL_law_18 : decode cL_law 18 = .ok (.iload_n 3, 1) := by decide +kernel
theorem dL_law_19 : decode cL_law 19 = .ok (.aload_n 0, 1) := by decide +kernel
theorem dL_law_20 : decode cL_law 20 = .ok (.arraylength, 1) := by decide +kernel
theorem dL_law_21 : decode cL_law 21 = .ok (.iconst 5, 1) := by decide +kernel
theorem dL_law_22 : decode cL_law 22 = .ok (.isub, 1) := by decide +kernel
theorem dL_law_23 : decode cL_law 23 = .ok (.if_icmp .gt 617, 3) := by decide +kernel
theorem dL_law_26 : decode cL_law 26 = .ok (.aload_n 0, 1) := by decide +kernel
theorem dL_law_27 : decode cL_law 27 = .ok (.iload_n 3, 1) := by decide +kernel
theorem dL_law_28 : decode cL_law 28 = .ok (.iaload, 1) := by decide +kernel
theorem dL_law_29 : decode cL_law 29 = .ok (.bipush 31, 2) := by decide +kernel
theorem dL_law_31 : decode cL_law 31 = .ok (.iand, 1) := by decide +kernel
theorem dL_law_32 : decode cL_law 32 = .ok (.tableswitch 602 0 17 #[88, 121, 144, 167, 200, 223, 266, 319, 352, 375, 398, 431, 454, 487, 520, 533, 556, 579], 88) := by decide +kernel
theorem dL_law_120 : decode cL_law 120 = .ok (.aload_n 1, 1) := by decide +kernel
theorem dL_law_121 : decode cL_law 121 = .ok (.aload_n 0, 1) := by decide +kernel
theorem dL_law_122 : decode cL_law 122 = .ok (.iload_n 3, 1) := by decide +kernel
theorem dL_law_123 : decode cL_law 123 = .ok (.iconst 1, 1) := by decide +kernel
theorem dL_law_124 : decode cL_law 124 = .ok (.iadd, 1) := by decide +kernel
theorem dL_law_125 : decode cL_law 125 = .ok (.iaload, 1) := by decide +kernel
theorem dL_law_126 : decode cL_law 126 = .ok (.aload_n 0, 1) := by decide +kernel
theorem dL_law_127 : decode cL_law 127 = .ok (.iload_n 3, 1) := by decide +kernel
theorem dL_law_128 : decode cL_law 128 = .ok (.iconst 2, 1) := by decide +kernel
theorem dL_law_129 : decode cL_law 129 = .ok (.iadd, 1) := by decide +kernel
theorem dL_law_130 : decode cL_law 130 = .ok (.iaload, 1) := by decide +kernel
theorem dL_law_131 : decode cL_law 131 = .ok (.invokevirtual 13, 3) := by decide +kernel
theorem dL_law_134 : decode cL_law 134 = .ok (.aload_n 2, 1) := by decide +kernel
theorem dL_law_135 : decode cL_law 135 = .ok (.aload_n 0, 1) := by decide +kernel
theorem dL_law_136 : decode cL_law 136 = .ok (.iload_n 3, 1) := by decide +kernel
theorem dL_law_137 : decode cL_law 137 = .ok (.iconst 1, 1) := by decide +kernel
theorem dL_law_138 : decode cL_law 138 = .ok (.iadd, 1) := by decide +kernel
theorem dL_law_139 : decode cL_law 139 = .ok (.iaload, 1) := by decide +kernel
theorem dL_law_140 : decode cL_law 140 = .ok (.aload_n 0, 1) := by decide +kernel
theorem dL_law_141 : decode cL_law 141 = .ok (.iload_n 3, 1) := by decide +kernel
theorem dL_law_142 : decode cL_law 142 = .ok (.iconst 2, 1) := by decide +kernel
theorem dL_law_143 : decode cL_law 143 = .ok (.iadd, 1) := by decide +kernel
theorem dL_law_144 : decode cL_law 144 = .ok (.iaload, 1) := by decide +kernel
theorem dL_law_145 : decode cL_law 145 = .ok (.invokevirtual 17, 3) := by decide +kernel
theorem dL_law_148 : decode cL_law 148 = .ok (.if_icmp .eq 486, 3) := by decide +kernel
theorem dL_law_151 : decode cL_law 151 = .ok (.iconst 0, 1) := by decide +kernel
theorem dL_law_152 : decode cL_law 152 = .ok (.ireturn, 1) := by decide +kernel
theorem dL_law_153 : decode cL_law 153 = .ok (.aload_n 1, 1) := by decide +kernel
theorem dL_law_154 : decode cL_law 154 = .ok (.aload_n 0, 1) := by decide +kernel
theorem dL_law_155 : decode cL_law 155 = .ok (.iload_n 3, 1) := by decide +kernel
theorem dL_law_156 : decode cL_law 156 = .ok (.iconst 1, 1) := by decide +kernel
theorem dL_law_157 : decode cL_law 157 = .ok (.iadd, 1) := by decide +kernel
theorem dL_law_158 : decode cL_law 158 = .ok (.iaload, 1) := by decide +kernel
theorem dL_law_159 : decode cL_law 159 = .ok (.invokevirtual 18, 3) := by decide +kernel
theorem dL_law_162 : decode cL_law 162 = .ok (.aload_n 2, 1) := by decide +kernel
theorem dL_law_163 : decode cL_law 163 = .ok (.aload_n 0, 1) := by decide +kernel
theorem dL_law_164 : decode cL_law 164 = .ok (.iload_n 3, 1) := by decide +kernel
theorem dL_law_165 : decode cL_law 165 = .ok (.iconst 1, 1) := by decide +kernel
theorem dL_law_166 : decode cL_law 166 = .ok (.iadd, 1) := by decide +kernel
theorem dL_law_167 : decode cL_law 167 = .ok (.iaload, 1) := by decide +kernel
theorem dL_law_168 : decode cL_law 168 = .ok (.invokevirtual 22, 3) := by decide +kernel
theorem dL_law_171 : decode cL_law 171 = .ok (.if_icmp .eq 463, 3) := by decide +kernel
theorem dL_law_174 : decode cL_law 174 = .ok (.iconst 0, 1) := by decide +kernel
theorem dL_law_175 : decode cL_law 175 = .ok (.ireturn, 1) := by decide +kernel
theorem dL_law_176 : decode cL_law 176 = .ok (.aload_n 1, 1) := by decide +kernel
theorem dL_law_177 : decode cL_law 177 = .ok (.aload_n 0, 1) := by decide +kernel
theorem dL_law_178 : decode cL_law 178 = .ok (.iload_n 3, 1) := by decide +kernel
theorem dL_law_179 : decode cL_law 179 = .ok (.iconst 1, 1) := by decide +kernel
theorem dL_law_180 : decode cL_law 180 = .ok (.iadd, 1) := by decide +kernel
theorem dL_law_181 : decode cL_law 181 = .ok (.iaload, 1) := by decide +kernel
theorem dL_law_182 : decode cL_law 182 = .ok (.invokevirtual 23, 3) := by decide +kernel
theorem dL_law_185 : decode cL_law 185 = .ok (.aload_n 2, 1) := by decide +kernel
theorem dL_law_186 : decode cL_law 186 = .ok (.aload_n 0, 1) := by decide +kernel
theorem dL_law_187 : decode cL_law 187 = .ok (.iload_n 3, 1) := by decide +kernel
theorem dL_law_188 : decode cL_law 188 = .ok (.iconst 1, 1) := by decide +kernel
theorem dL_law_189 : decode cL_law 189 = .ok (.iadd, 1) := by decide +kernel
theorem dL_law_190 : decode cL_law 190 = .ok (.iaload, 1) := by decide +kernel
theorem dL_law_191 : decode cL_law 191 = .ok (.invokevirtual 26, 3) := by decide +kernel
theorem dL_law_194 : decode cL_law 194 = .ok (.if_icmp .eq 440, 3) := by decide +kernel
theorem dL_law_197 : decode cL_law 197 = .ok (.iconst 0, 1) := by decide +kernel
theorem dL_law_198 : decode cL_law 198 = .ok (.ireturn, 1) := by decide +kernel
theorem dL_law_199 : decode cL_law 199 = .ok (.aload_n 1, 1) := by decide +kernel
theorem dL_law_200 : decode cL_law 200 = .ok (.aload_n 0, 1) := by decide +kernel
theorem dL_law_201 : decode cL_law 201 = .ok (.iload_n 3, 1) := by decide +kernel
theorem dL_law_202 : decode cL_law 202 = .ok (.iconst 1, 1) := by decide +kernel
theorem dL_law_203 : decode cL_law 203 = .ok (.iadd, 1) := by decide +kernel
theorem dL_law_204 : decode cL_law 204 = .ok (.iaload, 1) := by decide +kernel
theorem dL_law_205 : decode cL_law 205 = .ok (.aload_n 0, 1) := by decide +kernel
theorem dL_law_206 : decode cL_law 206 = .ok (.iload_n 3, 1) := by decide +kernel
theorem dL_law_207 : decode cL_law 207 = .ok (.iconst 2, 1) := by decide +kernel
theorem dL_law_208 : decode cL_law 208 = .ok (.iadd, 1) := by decide +kernel
theorem dL_law_209 : decode cL_law 209 = .ok (.iaload, 1) := by decide +kernel
theorem dL_law_210 : decode cL_law 210 = .ok (.invokevirtual 27, 3) := by decide +kernel
theorem dL_law_213 : decode cL_law 213 = .ok (.aload_n 2, 1) := by decide +kernel
theorem dL_law_214 : decode cL_law 214 = .ok (.aload_n 0, 1) := by decide +kernel
theorem dL_law_215 : decode cL_law 215 = .ok (.iload_n 3, 1) := by decide +kernel
theorem dL_law_216 : decode cL_law 216 = .ok (.iconst 1, 1) := by decide +kernel
theorem dL_law_217 : decode cL_law 217 = .ok (.iadd, 1) := by decide +kernel
theorem dL_law_218 : decode cL_law 218 = .ok (.iaload, 1) := by decide +kernel
theorem dL_law_219 : decode cL_law 219 = .ok (.aload_n 0, 1) := by decide +kernel
theorem dL_law_220 : decode cL_law 220 = .ok (.iload_n 3, 1) := by decide +kernel
theorem dL_law_221 : decode cL_law 221 = .ok (.iconst 2, 1) := by decide +kernel
theorem dL_law_222 : decode cL_law 222 = .ok (.iadd, 1) := by decide +kernel
theorem dL_law_223 : decode cL_law 223 = .ok (.iaload, 1) := by decide +kernel
theorem dL_law_224 : decode cL_law 224 = .ok (.invokevirtual 30, 3) := by decide +kernel
theorem dL_law_227 : decode cL_law 227 = .ok (.if_icmp .eq 407, 3) := by decide +kernel
theorem dL_law_230 : decode cL_law 230 = .ok (.iconst 0, 1) := by decide +kernel
theorem dL_law_231 : decode cL_law 231 = .ok (.ireturn, 1) := by decide +kernel
theorem dL_law_232 : decode cL_law 232 = .ok (.aload_n 1, 1) := by decide +kernel
theorem dL_law_233 : decode cL_law 233 = .ok (.aload_n 0, 1) := by decide +kernel
theorem dL_law_234 : decode cL_law 234 = .ok (.iload_n 3, 1) := by decide +kernel
theorem dL_law_235 : decode cL_law 235 = .ok (.iconst 1, 1) := by decide +kernel
theorem dL_law_236 : decode cL_law 236 = .ok (.iadd, 1) := by decide +kernel
theorem dL_law_237 : decode cL_law 237 = .ok (.iaload, 1) := by decide +kernel
theorem dL_law_238 : decode cL_law 238 = .ok (.invokevirtual 31, 3) := by decide +kernel
theorem dL_law_241 : decode cL_law 241 = .ok (.aload_n 2, 1) := by decide +kernel
theorem dL_law_242 : decode cL_law 242 = .ok (.aload_n 0, 1) := by decide +kernel
theorem dL_law_243 : decode cL_law 243 = .ok (.iload_n 3, 1) := by decide +kernel
theorem dL_law_244 : decode cL_law 244 = .ok (.iconst 1, 1) := by decide +kernel
theorem dL_law_245 : decode cL_law 245 = .ok (.iadd, 1) := by decide +kernel
theorem dL_law_246 : decode cL_law 246 = .ok (.iaload, 1) := by decide +kernel
theorem dL_law_247 : decode cL_law 247 = .ok (.invokevirtual 34, 3) := by decide +kernel
theorem dL_law_250 : decode cL_law 250 = .ok (.if_icmp .eq 384, 3) := by decide +kernel
theorem dL_law_253 : decode cL_law 253 = .ok (.iconst 0, 1) := by decide +kernel
theorem dL_law_254 : decode cL_law 254 = .ok (.ireturn, 1) := by decide +kernel
theorem dL_law_255 : decode cL_law 255 = .ok (.aload_n 1, 1) := by decide +kernel
theorem dL_law_256 : decode cL_law 256 = .ok (.aload_n 0, 1) := by decide +kernel
theorem dL_law_257 : decode cL_law 257 = .ok (.iload_n 3, 1) := by decide +kernel
theorem dL_law_258 : decode cL_law 258 = .ok (.iconst 1, 1) := by decide +kernel
theorem dL_law_259 : decode cL_law 259 = .ok (.iadd, 1) := by decide +kernel
theorem dL_law_260 : decode cL_law 260 = .ok (.iaload, 1) := by decide +kernel
end
section
theorem dL_law_261 : decode cL_law 261 = .ok (.aload_n 0, 1) := by decide +kernel
theorem dL_law_262 : decode cL_law 262 = .ok (.iload_n 3, 1) := by decide +kernel
theorem dL_law_263 : decode cL_law 263 = .ok (.iconst 2, 1) := by decide +kernel
theorem dL_law_264 : decode cL_law 264 = .ok (.iadd, 1) := by decide +kernel
theorem dL_law_265 : decode cL_law 265 = .ok (.iaload, 1) := by decide +kernel
theorem dL_law_266 : decode cL_law 266 = .ok (.aload_n 0, 1) := by decide +kernel
theorem dL_law_267 : decode cL_law 267 = .ok (.iload_n 3, 1) := by decide +kernel
theorem dL_law_268 : decode cL_law 268 = .ok (.iconst 3, 1) := by decide +kernel
theorem dL_law_269 : decode cL_law 269 = .ok (.iadd, 1) := by decide +kernel
theorem dL_law_270 : decode cL_law 270 = .ok (.iaload, 1) := by decide +kernel
theorem dL_law_271 : decode cL_law 271 = .ok (.invokevirtual 35, 3) := by decide +kernel
theorem dL_law_274 : decode cL_law 274 = .ok (.aload_n 2, 1) := by decide +kernel
theorem dL_law_275 : decode cL_law 275 = .ok (.aload_n 0, 1) := by decide +kernel
theorem dL_law_276 : decode cL_law 276 = .ok (.iload_n 3, 1) := by decide +kernel
theorem dL_law_277 : decode cL_law 277 = .ok (.iconst 1, 1) := by decide +kernel
theorem dL_law_278 : decode cL_law 278 = .ok (.iadd, 1) := by decide +kernel
theorem dL_law_279 : decode cL_law 279 = .ok (.iaload, 1) := by decide +kernel
theorem dL_law_280 : decode cL_law 280 = .ok (.aload_n 0, 1) := by decide +kernel
theorem dL_law_281 : decode cL_law 281 = .ok (.iload_n 3, 1) := by decide +kernel
theorem dL_law_282 : decode cL_law 282 = .ok (.iconst 2, 1) := by decide +kernel
theorem dL_law_283 : decode cL_law 283 = .ok (.iadd, 1) := by decide +kernel
theorem dL_law_284 : decode cL_law 284 = .ok (.iaload, 1) := by decide +kernel
theorem dL_law_285 : decode cL_law 285 = .ok (.aload_n 0, 1) := by decide +kernel
theorem dL_law_286 : decode cL_law 286 = .ok (.iload_n 3, 1) := by decide +kernel
theorem dL_law_287 : decode cL_law 287 = .ok (.iconst 3, 1) := by decide +kernel
theorem dL_law_288 : decode cL_law 288 = .ok (.iadd, 1) := by decide +kernel
theorem dL_law_289 : decode cL_law 289 = .ok (.iaload, 1) := by decide +kernel
theorem dL_law_290 : decode cL_law 290 = .ok (.invokevirtual 39, 3) := by decide +kernel
theorem dL_law_293 : decode cL_law 293 = .ok (.if_icmp .eq 341, 3) := by decide +kernel
theorem dL_law_296 : decode cL_law 296 = .ok (.iconst 0, 1) := by decide +kernel
theorem dL_law_297 : decode cL_law 297 = .ok (.ireturn, 1) := by decide +kernel
theorem dL_law_298 : decode cL_law 298 = .ok (.aload_n 1, 1) := by decide +kernel
theorem dL_law_299 : decode cL_law 299 = .ok (.aload_n 0, 1) := by decide +kernel
theorem dL_law_300 : decode cL_law 300 = .ok (.iload_n 3, 1) := by decide +kernel
theorem dL_law_301 : decode cL_law 301 = .ok (.iconst 1, 1) := by decide +kernel
theorem dL_law_302 : decode cL_law 302 = .ok (.iadd, 1) := by decide +kernel
theorem dL_law_303 : decode cL_law 303 = .ok (.iaload, 1) := by decide +kernel
theorem dL_law_304 : decode cL_law 304 = .ok (.aload_n 0, 1) := by decide +kernel
theorem dL_law_305 : decode cL_law 305 = .ok (.iload_n 3, 1) := by decide +kernel
theorem dL_law_306 : decode cL_law 306 = .ok (.iconst 2, 1) := by decide +kernel
theorem dL_law_307 : decode cL_law 307 = .ok (.iadd, 1) := by decide +kernel
theorem dL_law_308 : decode cL_law 308 = .ok (.iaload, 1) := by decide +kernel
theorem dL_law_309 : decode cL_law 309 = .ok (.aload_n 0, 1) := by decide +kernel
theorem dL_law_310 : decode cL_law 310 = .ok (.iload_n 3, 1) := by decide +kernel
theorem dL_law_311 : decode cL_law 311 = .ok (.iconst 3, 1) := by decide +kernel
theorem dL_law_312 : decode cL_law 312 = .ok (.iadd, 1) := by decide +kernel
theorem dL_law_313 : decode cL_law 313 = .ok (.iaload, 1) := by decide +kernel
theorem dL_law_314 : decode cL_law 314 = .ok (.aload_n 0, 1) := by decide +kernel
theorem dL_law_315 : decode cL_law 315 = .ok (.iload_n 3, 1) := by decide +kernel
theorem dL_law_316 : decode cL_law 316 = .ok (.iconst 4, 1) := by decide +kernel
theorem dL_law_317 : decode cL_law 317 = .ok (.iadd, 1) := by decide +kernel
theorem dL_law_318 : decode cL_law 318 = .ok (.iaload, 1) := by decide +kernel
theorem dL_law_319 : decode cL_law 319 = .ok (.invokevirtual 40, 3) := by decide +kernel
theorem dL_law_322 : decode cL_law 322 = .ok (.aload_n 2, 1) := by decide +kernel
theorem dL_law_323 : decode cL_law 323 = .ok (.aload_n 0, 1) := by decide +kernel
theorem dL_law_324 : decode cL_law 324 = .ok (.iload_n 3, 1) := by decide +kernel
theorem dL_law_325 : decode cL_law 325 = .ok (.iconst 1, 1) := by decide +kernel
theorem dL_law_326 : decode cL_law 326 = .ok (.iadd, 1) := by decide +kernel
theorem dL_law_327 : decode cL_law 327 = .ok (.iaload, 1) := by decide +kernel
theorem dL_law_328 : decode cL_law 328 = .ok (.aload_n 0, 1) := by decide +kernel
theorem dL_law_329 : decode cL_law 329 = .ok (.iload_n 3, 1) := by decide +kernel
theorem dL_law_330 : decode cL_law 330 = .ok (.iconst 2, 1) := by decide +kernel
theorem dL_law_331 : decode cL_law 331 = .ok (.iadd, 1) := by decide +kernel
theorem dL_law_332 : decode cL_law 332 = .ok (.iaload, 1) := by decide +kernel
theorem dL_law_333 : decode cL_law 333 = .ok (.aload_n 0, 1) := by decide +kernel
theorem dL_law_334 : decode cL_law 334 = .ok (.iload_n 3, 1) := by decide +kernel
theorem dL_law_335 : decode cL_law 335 = .ok (.iconst 3, 1) := by decide +kernel
theorem dL_law_336 : decode cL_law 336 = .ok (.iadd, 1) := by decide +kernel
theorem dL_law_337 : decode cL_law 337 = .ok (.iaload, 1) := by decide +kernel
theorem dL_law_338 : decode cL_law 338 = .ok (.aload_n 0, 1) := by decide +kernel
theorem dL_law_339 : decode cL_law 339 = .ok (.iload_n 3, 1) := by decide +kernel
theorem dL_law_340 : decode cL_law 340 = .ok (.iconst 4, 1) := by decide +kernel
theorem dL_law_341 : decode cL_law 341 = .ok (.iadd, 1) := by decide +kernel
theorem dL_law_342 : decode cL_law 342 = .ok (.iaload, 1) := by decide +kernel
theorem dL_law_343 : decode cL_law 343 = .ok (.invokevirtual 44, 3) := by decide +kernel
theorem dL_law_346 : decode cL_law 346 = .ok (.if_icmp .eq 288, 3) := by decide +kernel
theorem dL_law_349 : decode cL_law 349 = .ok (.iconst 0, 1) := by decide +kernel
theorem dL_law_350 : decode cL_law 350 = .ok (.ireturn, 1) := by decide +kernel
theorem dL_law_351 : decode cL_law 351 = .ok (.aload_n 1, 1) := by decide +kernel
theorem dL_law_352 : decode cL_law 352 = .ok (.aload_n 0, 1) := by decide +kernel
theorem dL_law_353 : decode cL_law 353 = .ok (.iload_n 3, 1) := by decide +kernel
theorem dL_law_354 : decode cL_law 354 = .ok (.iconst 1, 1) := by decide +kernel
theorem dL_law_355 : decode cL_law 355 = .ok (.iadd, 1) := by decide +kernel
theorem dL_law_356 : decode cL_law 356 = .ok (.iaload, 1) := by decide +kernel
theorem dL_law_357 : decode cL_law 357 = .ok (.aload_n 0, 1) := by decide +kernel
theorem dL_law_358 : decode cL_law 358 = .ok (.iload_n 3, 1) := by decide +kernel
theorem dL_law_359 : decode cL_law 359 = .ok (.iconst 2, 1) := by decide +kernel
theorem dL_law_360 : decode cL_law 360 = .ok (.iadd, 1) := by decide +kernel
theorem dL_law_361 : decode cL_law 361 = .ok (.iaload, 1) := by decide +kernel
theorem dL_law_362 : decode cL_law 362 = .ok (.invokevirtual 45, 3) := by decide +kernel
theorem dL_law_365 : decode cL_law 365 = .ok (.aload_n 2, 1) := by decide +kernel
theorem dL_law_366 : decode cL_law 366 = .ok (.aload_n 0, 1) := by decide +kernel
theorem dL_law_367 : decode cL_law 367 = .ok (.iload_n 3, 1) := by decide +kernel
theorem dL_law_368 : decode cL_law 368 = .ok (.iconst 1, 1) := by decide +kernel
theorem dL_law_369 : decode cL_law 369 = .ok (.iadd, 1) := by decide +kernel
theorem dL_law_370 : decode cL_law 370 = .ok (.iaload, 1) := by decide +kernel
theorem dL_law_371 : decode cL_law 371 = .ok (.aload_n 0, 1) := by decide +kernel
theorem dL_law_372 : decode cL_law 372 = .ok (.iload_n 3, 1) := by decide +kernel
theorem dL_law_373 : decode cL_law 373 = .ok (.iconst 2, 1) := by decide +kernel
theorem dL_law_374 : decode cL_law 374 = .ok (.iadd, 1) := by decide +kernel
theorem dL_law_375 : decode cL_law 375 = .ok (.iaload, 1) := by decide +kernel
theorem dL_law_376 : decode cL_law 376 = .ok (.invokevirtual 48, 3) := by decide +kernel
theorem dL_law_379 : decode cL_law 379 = .ok (.if_icmp .eq 255, 3) := by decide +kernel
theorem dL_law_382 : decode cL_law 382 = .ok (.iconst 0, 1) := by decide +kernel
theorem dL_law_383 : decode cL_law 383 = .ok (.ireturn, 1) := by decide +kernel
theorem dL_law_384 : decode cL_law 384 = .ok (.aload_n 1, 1) := by decide +kernel
theorem dL_law_385 : decode cL_law 385 = .ok (.aload_n 0, 1) := by decide +kernel
theorem dL_law_386 : decode cL_law 386 = .ok (.iload_n 3, 1) := by decide +kernel
theorem dL_law_387 : decode cL_law 387 = .ok (.iconst 1, 1) := by decide +kernel
theorem dL_law_388 : decode cL_law 388 = .ok (.iadd, 1) := by decide +kernel
theorem dL_law_389 : decode cL_law 389 = .ok (.iaload, 1) := by decide +kernel
theorem dL_law_390 : decode cL_law 390 = .ok (.invokevirtual 49, 3) := by decide +kernel
theorem dL_law_393 : decode cL_law 393 = .ok (.aload_n 2, 1) := by decide +kernel
theorem dL_law_394 : decode cL_law 394 = .ok (.aload_n 0, 1) := by decide +kernel
theorem dL_law_395 : decode cL_law 395 = .ok (.iload_n 3, 1) := by decide +kernel
theorem dL_law_396 : decode cL_law 396 = .ok (.iconst 1, 1) := by decide +kernel
theorem dL_law_397 : decode cL_law 397 = .ok (.iadd, 1) := by decide +kernel
theorem dL_law_398 : decode cL_law 398 = .ok (.iaload, 1) := by decide +kernel
theorem dL_law_399 : decode cL_law 399 = .ok (.invokevirtual 52, 3) := by decide +kernel
theorem dL_law_402 : decode cL_law 402 = .ok (.if_icmp .eq 232, 3) := by decide +kernel
theorem dL_law_405 : decode cL_law 405 = .ok (.iconst 0, 1) := by decide +kernel
theorem dL_law_406 : decode cL_law 406 = .ok (.ireturn, 1) := by decide +kernel
theorem dL_law_407 : decode cL_law 407 = .ok (.aload_n 1, 1) := by decide +kernel
theorem dL_law_408 : decode cL_law 408 = .ok (.aload_n 0, 1) := by decide +kernel
theorem dL_law_409 : decode cL_law 409 = .ok (.iload_n 3, 1) := by decide +kernel
theorem dL_law_410 : decode cL_law 410 = .ok (.iconst 1, 1) := by decide +kernel
theorem dL_law_411 : decode cL_law 411 = .ok (.iadd, 1) := by decide +kernel
theorem dL_law_412 : decode cL_law 412 = .ok (.iaload, 1) := by decide +kernel
theorem dL_law_413 : decode cL_law 413 = .ok (.invokevirtual 53, 3) := by decide +kernel
theorem dL_law_416 : decode cL_law 416 = .ok (.aload_n 2, 1) := by decide +kernel
theorem dL_law_417 : decode cL_law 417 = .ok (.aload_n 0, 1) := by decide +kernel
theorem dL_law_418 : decode cL_law 418 = .ok (.iload_n 3, 1) := by decide +kernel
theorem dL_law_419 : decode cL_law 419 = .ok (.iconst 1, 1) := by decide +kernel
theorem dL_law_420 : decode cL_law 420 = .ok (.iadd, 1) := by decide +kernel
theorem dL_law_421 : decode cL_law 421 = .ok (.iaload, 1) := by decide +kernel
theorem dL_law_422 : decode cL_law 422 = .ok (.invokevirtual 56, 3) := by decide +kernel
theorem dL_law_425 : decode cL_law 425 = .ok (.if_icmp .eq 209, 3) := by decide +kernel
theorem dL_law_428 : decode cL_law 428 = .ok (.iconst 0, 1) := by decide +kernel
theorem dL_law_429 : decode cL_law 429 = .ok (.ireturn, 1) := by decide +kernel
theorem dL_law_430 : decode cL_law 430 = .ok (.aload_n 1, 1) := by decide +kernel
theorem dL_law_431 : decode cL_law 431 = .ok (.aload_n 0, 1) := by decide +kernel
theorem dL_law_432 : decode cL_law 432 = .ok (.iload_n 3, 1) := by decide +kernel
theorem dL_law_433 : decode cL_law 433 = .ok (.iconst 1, 1) := by decide +kernel
theorem dL_law_434 : decode cL_law 434 = .ok (.iadd, 1) := by decide +kernel
theorem dL_law_435 : decode cL_law 435 = .ok (.iaload, 1) := by decide +kernel
theorem dL_law_436 : decode cL_law 436 = .ok (.aload_n 0, 1) := by decide +kernel
theorem dL_law_437 : decode cL_law 437 = .ok (.iload_n 3, 1) := by decide +kernel
theorem dL_law_438 : decode cL_law 438 = .ok (.iconst 2, 1) := by decide +kernel
theorem dL_law_439 : decode cL_law 439 = .ok (.iadd, 1) := by decide +kernel
theorem dL_law_440 : decode cL_law 440 = .ok (.iaload, 1) := by decide +kernel
theorem dL_law_441 : decode cL_law 441 = .ok (.invokevirtual 57, 3) := by decide +kernel
theorem dL_law_444 : decode cL_law 444 = .ok (.aload_n 2, 1) := by decide +kernel
theorem dL_law_445 : decode cL_law 445 = .ok (.aload_n 0, 1) := by decide +kernel
theorem dL_law_446 : decode cL_law 446 = .ok (.iload_n 3, 1) := by decide +kernel
theorem dL_law_447 : decode cL_law 447 = .ok (.iconst 1, 1) := by decide +kernel
theorem dL_law_448 : decode cL_law 448 = .ok (.iadd, 1) := by decide +kernel
theorem dL_law_449 : decode cL_law 449 = .ok (.iaload, 1) := by decide +kernel
theorem dL_law_450 : decode cL_law 450 = .ok (.aload_n 0, 1) := by decide +kernel
theorem dL_law_451 : decode cL_law 451 = .ok (.iload_n 3, 1) := by decide +kernel
theorem dL_law_452 : decode cL_law 452 = .ok (.iconst 2, 1) := by decide +kernel
theorem dL_law_453 : decode cL_law 453 = .ok (.iadd, 1) := by decide +kernel
theorem dL_law_454 : decode cL_law 454 = .ok (.iaload, 1) := by decide +kernel
theorem dL_law_455 : decode cL_law 455 = .ok (.invokevirtual 60, 3) := by decide +kernel
theorem dL_law_458 : decode cL_law 458 = .ok (.if_icmp .eq 176, 3) := by decide +kernel
theorem dL_law_461 : decode cL_law 461 = .ok (.iconst 0, 1) := by decide +kernel
theorem dL_law_462 : decode cL_law 462 = .ok (.ireturn, 1) := by decide +kernel
theorem dL_law_463 : decode cL_law 463 = .ok (.aload_n 1, 1) := by decide +kernel
theorem dL_law_464 : decode cL_law 464 = .ok (.aload_n 0, 1) := by decide +kernel
theorem dL_law_465 : decode cL_law 465 = .ok (.iload_n 3, 1) := by decide +kernel
theorem dL_law_466 : decode cL_law 466 = .ok (.iconst 1, 1) := by decide +kernel
theorem dL_law_467 : decode cL_law 467 = .ok (.iadd, 1) := by decide +kernel
theorem dL_law_468 : decode cL_law 468 = .ok (.iaload, 1) := by decide +kernel
theorem dL_law_469 : decode cL_law 469 = .ok (.invokevirtual 61, 3) := by decide +kernel
theorem dL_law_472 : decode cL_law 472 = .ok (.aload_n 2, 1) := by decide +kernel
theorem dL_law_473 : decode cL_law 473 = .ok (.aload_n 0, 1) := by decide +kernel
theorem dL_law_474 : decode cL_law 474 = .ok (.iload_n 3, 1) := by decide +kernel
theorem dL_law_475 : decode cL_law 475 = .ok (.iconst 1, 1) := by decide +kernel
theorem dL_law_476 : decode cL_law 476 = .ok (.iadd, 1) := by decide +kernel
theorem dL_law_477 : decode cL_law 477 = .ok (.iaload, 1) := by decide +kernel
theorem dL_law_478 : decode cL_law 478 = .ok (.invokevirtual 64, 3) := by decide +kernel
theorem dL_law_481 : decode cL_law 481 = .ok (.if_icmp .eq 153, 3) := by decide +kernel
theorem dL_law_484 : decode cL_law 484 = .ok (.iconst 0, 1) := by decide +kernel
theorem dL_law_485 : decode cL_law 485 = .ok (.ireturn, 1) := by decide +kernel
theorem dL_law_486 : decode cL_law 486 = .ok (.aload_n 1, 1) := by decide +kernel
theorem dL_law_487 : decode cL_law 487 = .ok (.aload_n 0, 1) := by decide +kernel
theorem dL_law_488 : decode cL_law 488 = .ok (.iload_n 3, 1) := by decide +kernel
theorem dL_law_489 : decode cL_law 489 = .ok (.iconst 1, 1) := by decide +kernel
theorem dL_law_490 : decode cL_law 490 = .ok (.iadd, 1) := by decide +kernel
theorem dL_law_491 : decode cL_law 491 = .ok (.iaload, 1) := by decide +kernel
theorem dL_law_492 : decode cL_law 492 = .ok (.aload_n 0, 1) := by decide +kernel
theorem dL_law_493 : decode cL_law 493 = .ok (.iload_n 3, 1) := by decide +kernel
theorem dL_law_494 : decode cL_law 494 = .ok (.iconst 2, 1) := by decide +kernel
theorem dL_law_495 : decode cL_law 495 = .ok (.iadd, 1) := by decide +kernel
theorem dL_law_496 : decode cL_law 496 = .ok (.iaload, 1) := by decide +kernel
theorem dL_law_497 : decode cL_law 497 = .ok (.invokevirtual 65, 3) := by decide +kernel
theorem dL_law_500 : decode cL_law 500 = .ok (.aload_n 2, 1) := by decide +kernel
theorem dL_law_501 : decode cL_law 501 = .ok (.aload_n 0, 1) := by decide +kernel
theorem dL_law_502 : decode cL_law 502 = .ok (.iload_n 3, 1) := by decide +kernel
theorem dL_law_503 : decode cL_law 503 = .ok (.iconst 1, 1) := by decide +kernel
theorem dL_law_504 : decode cL_law 504 = .ok (.iadd, 1) := by decide +kernel
theorem dL_law_505 : decode cL_law 505 = .ok (.iaload, 1) := by decide +kernel
theorem dL_law_506 : decode cL_law 506 = .ok (.aload_n 0, 1) := by decide +kernel
theorem dL_law_507 : decode cL_law 507 = .ok (.iload_n 3, 1) := by decide +kernel
theorem dL_law_508 : decode cL_law 508 = .ok (.iconst 2, 1) := by decide +kernel
theorem dL_law_509 : decode cL_law 509 = .ok (.iadd, 1) := by decide +kernel
theorem dL_law_510 : decode cL_law 510 = .ok (.iaload, 1) := by decide +kernel
theorem dL_law_511 : decode cL_law 511 = .ok (.invokevirtual 68, 3) := by decide +kernel
theorem dL_law_514 : decode cL_law 514 = .ok (.if_icmp .eq 120, 3) := by decide +kernel
theorem dL_law_517 : decode cL_law 517 = .ok (.iconst 0, 1) := by decide +kernel
theorem dL_law_518 : decode cL_law 518 = .ok (.ireturn, 1) := by decide +kernel
theorem dL_law_519 : decode cL_law 519 = .ok (.aload_n 1, 1) := by decide +kernel
theorem dL_law_520 : decode cL_law 520 = .ok (.aload_n 0, 1) := by decide +kernel
theorem dL_law_521 : decode cL_law 521 = .ok (.iload_n 3, 1) := by decide +kernel
theorem dL_law_522 : decode cL_law 522 = .ok (.iconst 1, 1) := by decide +kernel
theorem dL_law_523 : decode cL_law 523 = .ok (.iadd, 1) := by decide +kernel
theorem dL_law_524 : decode cL_law 524 = .ok (.iaload, 1) := by decide +kernel
theorem dL_law_525 : decode cL_law 525 = .ok (.aload_n 0, 1) := by decide +kernel
theorem dL_law_526 : decode cL_law 526 = .ok (.iload_n 3, 1) := by decide +kernel
theorem dL_law_527 : decode cL_law 527 = .ok (.iconst 2, 1) := by decide +kernel
theorem dL_law_528 : decode cL_law 528 = .ok (.iadd, 1) := by decide +kernel
theorem dL_law_529 : decode cL_law 529 = .ok (.iaload, 1) := by decide +kernel
theorem dL_law_530 : decode cL_law 530 = .ok (.invokevirtual 69, 3) := by decide +kernel
theorem dL_law_533 : decode cL_law 533 = .ok (.aload_n 2, 1) := by decide +kernel
theorem dL_law_534 : decode cL_law 534 = .ok (.aload_n 0, 1) := by decide +kernel
theorem dL_law_535 : decode cL_law 535 = .ok (.iload_n 3, 1) := by decide +kernel
theorem dL_law_536 : decode cL_law 536 = .ok (.iconst 1, 1) := by decide +kernel
theorem dL_law_537 : decode cL_law 537 = .ok (.iadd, 1) := by decide +kernel
theorem dL_law_538 : decode cL_law 538 = .ok (.iaload, 1) := by decide +kernel
theorem dL_law_539 : decode cL_law 539 = .ok (.aload_n 0, 1) := by decide +kernel
theorem dL_law_540 : decode cL_law 540 = .ok (.iload_n 3, 1) := by decide +kernel
theorem dL_law_541 : decode cL_law 541 = .ok (.iconst 2, 1) := by decide +kernel
theorem dL_law_542 : decode cL_law 542 = .ok (.iadd, 1) := by decide +kernel
theorem dL_law_543 : decode cL_law 543 = .ok (.iaload, 1) := by decide +kernel
theorem dL_law_544 : decode cL_law 544 = .ok (.invokevirtual 72, 3) := by decide +kernel
theorem dL_law_547 : decode cL_law 547 = .ok (.if_icmp .eq 87, 3) := by decide +kernel
theorem dL_law_550 : decode cL_law 550 = .ok (.iconst 0, 1) := by decide +kernel
theorem dL_law_551 : decode cL_law 551 = .ok (.ireturn, 1) := by decide +kernel
theorem dL_law_552 : decode cL_law 552 = .ok (.aload_n 1, 1) := by decide +kernel
theorem dL_law_553 : decode cL_law 553 = .ok (.invokevirtual 73, 3) := by decide +kernel
theorem dL_law_556 : decode cL_law 556 = .ok (.aload_n 2, 1) := by decide +kernel
theorem dL_law_557 : decode cL_law 557 = .ok (.invokevirtual 77, 3) := by decide +kernel
theorem dL_law_560 : decode cL_law 560 = .ok (.if_icmp .eq 74, 3) := by decide +kernel
theorem dL_law_563 : decode cL_law 563 = .ok (.iconst 0, 1) := by decide +kernel
theorem dL_law_564 : decode cL_law 564 = .ok (.ireturn, 1) := by decide +kernel
theorem dL_law_565 : decode cL_law 565 = .ok (.aload_n 1, 1) := by decide +kernel
theorem dL_law_566 : decode cL_law 566 = .ok (.aload_n 0, 1) := by decide +kernel
theorem dL_law_567 : decode cL_law 567 = .ok (.iload_n 3, 1) := by decide +kernel
theorem dL_law_568 : decode cL_law 568 = .ok (.iconst 1, 1) := by decide +kernel
theorem dL_law_569 : decode cL_law 569 = .ok (.iadd, 1) := by decide +kernel
theorem dL_law_570 : decode cL_law 570 = .ok (.iaload, 1) := by decide +kernel
theorem dL_law_571 : decode cL_law 571 = .ok (.invokevirtual 78, 3) := by decide +kernel
theorem dL_law_574 : decode cL_law 574 = .ok (.aload_n 2, 1) := by decide +kernel
theorem dL_law_575 : decode cL_law 575 = .ok (.aload_n 0, 1) := by decide +kernel
theorem dL_law_576 : decode cL_law 576 = .ok (.iload_n 3, 1) := by decide +kernel
theorem dL_law_577 : decode cL_law 577 = .ok (.iconst 1, 1) := by decide +kernel
theorem dL_law_578 : decode cL_law 578 = .ok (.iadd, 1) := by decide +kernel
theorem dL_law_579 : decode cL_law 579 = .ok (.iaload, 1) := by decide +kernel
theorem dL_law_580 : decode cL_law 580 = .ok (.invokevirtual 81, 3) := by decide +kernel
theorem dL_law_583 : decode cL_law 583 = .ok (.if_icmp .eq 51, 3) := by decide +kernel
theorem dL_law_586 : decode cL_law 586 = .ok (.iconst 0, 1) := by decide +kernel
theorem dL_law_587 : decode cL_law 587 = .ok (.ireturn, 1) := by decide +kernel
theorem dL_law_588 : decode cL_law 588 = .ok (.aload_n 1, 1) := by decide +kernel
theorem dL_law_589 : decode cL_law 589 = .ok (.aload_n 0, 1) := by decide +kernel
theorem dL_law_590 : decode cL_law 590 = .ok (.iload_n 3, 1) := by decide +kernel
theorem dL_law_591 : decode cL_law 591 = .ok (.iconst 1, 1) := by decide +kernel
theorem dL_law_592 : decode cL_law 592 = .ok (.iadd, 1) := by decide +kernel
theorem dL_law_593 : decode cL_law 593 = .ok (.iaload, 1) := by decide +kernel
theorem dL_law_594 : decode cL_law 594 = .ok (.invokevirtual 82, 3) := by decide +kernel
theorem dL_law_597 : decode cL_law 597 = .ok (.aload_n 2, 1) := by decide +kernel
theorem dL_law_598 : decode cL_law 598 = .ok (.aload_n 0, 1) := by decide +kernel
theorem dL_law_599 : decode cL_law 599 = .ok (.iload_n 3, 1) := by decide +kernel
theorem dL_law_600 : decode cL_law 600 = .ok (.iconst 1, 1) := by decide +kernel
theorem dL_law_601 : decode cL_law 601 = .ok (.iadd, 1) := by decide +kernel
theorem dL_law_602 : decode cL_law 602 = .ok (.iaload, 1) := by decide +kernel
theorem dL_law_603 : decode cL_law 603 = .ok (.invokevirtual 85, 3) := by decide +kernel
theorem dL_law_606 : decode cL_law 606 = .ok (.if_icmp .eq 28, 3) := by decide +kernel
theorem dL_law_609 : decode cL_law 609 = .ok (.iconst 0, 1) := by decide +kernel
theorem dL_law_610 : decode cL_law 610 = .ok (.ireturn, 1) := by decide +kernel
theorem dL_law_611 : decode cL_law 611 = .ok (.aload_n 1, 1) := by decide +kernel
theorem dL_law_612 : decode cL_law 612 = .ok (.aload_n 0, 1) := by decide +kernel
theorem dL_law_613 : decode cL_law 613 = .ok (.iload_n 3, 1) := by decide +kernel
theorem dL_law_614 : decode cL_law 614 = .ok (.iconst 1, 1) := by decide +kernel
theorem dL_law_615 : decode cL_law 615 = .ok (.iadd, 1) := by decide +kernel
theorem dL_law_616 : decode cL_law 616 = .ok (.iaload, 1) := by decide +kernel
theorem dL_law_617 : decode cL_law 617 = .ok (.invokevirtual 86, 3) := by decide +kernel
theorem dL_law_620 : decode cL_law 620 = .ok (.aload_n 2, 1) := by decide +kernel
theorem dL_law_621 : decode cL_law 621 = .ok (.aload_n 0, 1) := by decide +kernel
theorem dL_law_622 : decode cL_law 622 = .ok (.iload_n 3, 1) := by decide +kernel
theorem dL_law_623 : decode cL_law 623 = .ok (.iconst 1, 1) := by decide +kernel
theorem dL_law_624 : decode cL_law 624 = .ok (.iadd, 1) := by decide +kernel
theorem dL_law_625 : decode cL_law 625 = .ok (.iaload, 1) := by decide +kernel
theorem dL_law_626 : decode cL_law 626 = .ok (.invokevirtual 89, 3) := by decide +kernel
theorem dL_law_629 : decode cL_law 629 = .ok (.if_icmp .eq 5, 3) := by decide +kernel
theorem dL_law_632 : decode cL_law 632 = .ok (.iconst 0, 1) := by decide +kernel
theorem dL_law_633 : decode cL_law 633 = .ok (.ireturn, 1) := by decide +kernel
theorem dL_law_634 : decode cL_law 634 = .ok (.iinc 3 5, 3) := by decide +kernel
theorem dL_law_637 : decode cL_law 637 = .ok (.goto (-619), 3) := by decide +kernel
theorem dL_law_640 : decode cL_law 640 = .ok (.iconst 1, 1) := by decide +kernel
theorem dL_law_641 : decode cL_law 641 = .ok (.ireturn, 1) := by decide +kernel
end
section
/-! what a run of a method is: data of fixed cells, and a walk that speaks of them alone -/
abbrev MU : Type := Nat → Nat → Int32
abbrev mR : Type := Option (Int32 × MU)
def mrow (u : MU) (k : Nat) (f : Nat → Int32) : MU := fun a => if a = k then f else u a
def mup (u : MU) (k j : Nat) (v : Int32) : MU := mrow u k (upd (u k) j v)
def mIx (i : Int32) (n : Nat) : Bool := !(decide (i < 0)) && decide (i.toNatClampNeg < n)
def mZ (x : Int32) : Bool := decide (x = 0) || decide (x = 1)
def gd (c : Bool) (k : mR) : mR := if c = true then k else none
def mB (a : mR) (k : Int32 → MU → mR) : mR := match a with
  | some x => k x.1 x.2
  | none => none
theorem gd_some {c : Bool} {k : mR} {r : Int32 × MU} (h : gd c k = some r) : c = true ∧ k = some r := by
  unfold gd at h
  by_cases hc : c = true
  · rw [if_pos hc] at h; exact ⟨hc, h⟩
  · rw [if_neg hc] at h; cases h
theorem mB_some {a : mR} {k : Int32 → MU → mR} {r : Int32 × MU} (h : mB a k = some r) : ∃ (x : Int32) (v : MU), a = some (x, v) ∧ k x v = some r := by
  unfold mB at h
  cases a with
  | none => cases h
  | some z => exact ⟨z.1, z.2, rfl, h⟩
theorem mIx_in {i : Int32} {n : Nat} (h : mIx i n = true) : vp_in i n := by
  unfold mIx at h
  simp only [Bool.and_eq_true, Bool.not_eq_true', decide_eq_false_iff_not, decide_eq_true_eq] at h
  intro q
  rcases q with q | q
  · exact h.1 q
  · omega
/-- the words of the tables that a call hands on -/
def okF : Cond → Bool
  | .fieldLinkNest _ _ _ _ _ _ => true
  | _ => false
def okM : Cond → Bool
  | .methodLinkNest _ _ _ _ => true
  | _ => false
def okw (w : Cond) : Bool := goodWord w || (okF w || okM w)
def TB : List Cond := lw_tbl.filter okw
theorem tb_mem {w : Cond} (i : Nat) (h : lw_tbl[i]? = some w) (ho : okw w = true) : w ∈ TB := List.mem_filter.mpr ⟨List.mem_of_getElem? h, ho⟩
theorem tb_all (ws : List Cond) (is : List Nat) (h : ws.map some = is.map (fun i => lw_tbl[i]?)) (ho : ws.all okw = true) : ∀ w ∈ ws, w ∈ TB := by
  intro w hw
  have h1 := List.all_eq_true.mp ho w hw
  have h2 : some w ∈ ws.map some := List.mem_map.mpr ⟨w, hw, rfl⟩
  rw [h] at h2
  obtain ⟨i, -, hi⟩ := List.mem_map.mp h2
  exact tb_mem i hi h1
theorem tb_warm {args : Array Value} {s : State} (h : ∀ w ∈ TB, w.before args s = true) : ∀ w ∈ TB, ∀ (a' : Array Value) (U : State), s.WarmedH U.vm → w.before a' U = true := by
  intro w hw a' U hW
  have hb := h w hw
  have ho := (List.mem_filter.mp hw).2
  unfold okw at ho
  rw [Bool.or_eq_true, Bool.or_eq_true] at ho
  rcases ho with ho | ho | ho
  · exact word_at hW (good_of_word ho) hb
  · cases w <;> first | (exfalso; simp [okF] at ho; done) | exact va_Nw.use rfl (va_Nw.warmF hW (va_Nw.of rfl hb))
  · cases w <;> first | (exfalso; simp [okM] at ho; done) | exact va_Nw.use rfl (va_Nw.warmM hW (va_Nw.of rfl hb))
/-- the cells: a row of numbers (which row kind, how long), a row of cells, an object (which of vwCl, its fields: a cell, or a number) -/
abbrev mSC : Type := (Nat × Nat) ⊕ ((Nat × List Nat) ⊕ (Nat × List (Option Nat)))
def mV (as : Nat → Nat) (x : Int32) (o : Option Nat) : Value := match o with
  | some q => .ref (as q)
  | none => .int x
def mE (dA : Nat → ClassId) (as : Nat → Nat) (f : Nat → Int32) (c : mSC) : va_E := match c with
  | .inl x => .inl (dA x.1, x.2, .inl f)
  | .inr (.inl x) => .inl (dA x.1, x.2.length, .inr (.inr (.inr (.inr (fun i => (x.2[i]?).map as)))))
  | .inr (.inr x) => .inr (x.1, x.2.mapIdx (fun j o => mV as (f j) o))
abbrev oRow (n : Nat) : mSC := .inl (0, n)
abbrev oBow (n : Nat) : mSC := .inl (1, n)
abbrev oRtn (q : Nat) : List mSC := [.inr (.inr (5, [some (q + 1), none, none, some (q + 2), some (q + 3), some (q + 4), some (q + 5), none, some (q + 6), some (q + 7), none, none])), oRow 30, oRow 15, oRow 15, oRow 15, oRow 15, oRow 30, oRow 30]
abbrev oPrg (q : Nat) : List mSC := [.inr (.inr (4, [some (q + 1), some (q + 2), none])), oRow 16, oRow 16]
abbrev oImg (q : Nat) : List mSC := [.inr (.inr (1, [some (q + 1), some (q + 2), none])), oRow 18] ++ oPrg (q + 2)
abbrev oLay (q : Nat) : List mSC := [.inr (.inr (2, [some (q + 1), some (q + 4), some (q + 5), some (q + 6), none, none]))] ++ oPrg (q + 1) ++ [oRow 16, oRow 16, oRow 16]
abbrev oEff (q : Nat) : List mSC := [.inr (.inr (0, [some (q + 1), some (q + 2), some (q + 3), some (q + 4), some (q + 5), none])), oRow 72, oRow 72, oRow 72, oRow 72, oBow 6]
abbrev oMac (q : Nat) : List mSC := [.inr (.inr (3, [some (q + 1), some (q + 2), none, none, none])), oRow 18, oRow 16]
abbrev oMdl (q : Nat) : List mSC := [.inr (.inr (7, [some (q + 1), some (q + 2), some (q + 3), some (q + 4), some (q + 5), none, none, none, none, none, none, none, none, none, some (q + 6), some (q + 7), some (q + 8), some (q + 9), some (q + 10), some (q + 11), none, some (q + 12), some (q + 13), some (q + 14), some (q + 15), some (q + 16), none, some (q + 17), some (q + 18), some (q + 19), none, none, some (q + 20), none, none, some (q + 21), some (q + 22), none, none])),
  oRow 180, oRow 6, oRow 18, oRow 16, oRow 16, oRow 72, oRow 72, oRow 72, oRow 72, oRow 6, oRow 18, oRow 16, oRow 16, oRow 16, oRow 16, oRow 16, oRow 20, oRow 20, oRow 20, oRow 16, oRow 102, oBow 2]
def mShX : List mSC := [.inr (.inr (6, [some 1, some 2, some 8, some 9, some 12, some 13, some 20, some 27])), .inr (.inl (2, [30, 38, 46, 54, 62, 70]))] ++ oEff 2 ++ [oRow 18] ++ oPrg 9 ++ [.inr (.inl (3, [78, 83]))] ++ oLay 13 ++ oLay 20 ++ oMac 27 ++ oRtn 30 ++ oRtn 38 ++ oRtn 46 ++ oRtn 54 ++ oRtn 62 ++ oRtn 70 ++ oImg 78 ++ oImg 83
def mSh : List mSC := mShX ++ oMdl 88
def mLen (a : Nat) : Nat := match mSh[a]? with
  | some (.inl x) => x.2
  | _ => 0
def mW (dA : Nat → ClassId) (as : Nat → Nat) (u : MU) : va_W := mSh.mapIdx (fun k c => (as k, mE dA as (u k) c))
theorem mW_get {dA : Nat → ClassId} {as : Nat → Nat} {u : MU} {k : Nat} {c : mSC} (h : mSh[k]? = some c) : (mW dA as u)[k]? = some (as k, mE dA as (u k) c) := by
  unfold mW
  rw [List.getElem?_mapIdx, h]
  rfl
theorem mW_row {dA : Nat → ClassId} {as : Nat → Nat} {u : MU} {k : Nat} {c : mSC} (h : mSh[k]? = some c) (f : Nat → Int32) : (mW dA as u).set k (as k, mE dA as f c) = mW dA as (mrow u k f) := by
  apply List.ext_getElem?
  intro i
  rw [List.getElem?_set]
  by_cases hi : k = i
  · subst hi
    rw [if_pos rfl, mW_get h]
    have hl : k < (mW dA as u).length := by
      have := (List.getElem?_eq_some_iff.mp h).1
      unfold mW
      rw [List.length_mapIdx]
      exact this
    rw [if_pos hl]
    simp [mrow]
  · rw [if_neg hi]
    unfold mW
    rw [List.getElem?_mapIdx, List.getElem?_mapIdx]
    congr 1
    funext c
    simp [mrow, Ne.symm hi]
theorem mF_get {as : Nat → Nat} {f : Nat → Int32} {fl : List (Option Nat)} {k : Nat} {o : Option Nat} (h : fl[k]? = some o) : (fl.mapIdx (fun j o => mV as (f j) o))[k]? = some (mV as (f k) o) := by
  rw [List.getElem?_mapIdx, h]
  rfl
theorem mF_set {as : Nat → Nat} {f : Nat → Int32} {fl : List (Option Nat)} {k : Nat} (h : fl[k]? = some none) (v : Int32) : (fl.mapIdx (fun j o => mV as (f j) o)).set k (.int v) = fl.mapIdx (fun j o => mV as (upd f k v j) o) := by
  apply List.ext_getElem?
  intro i
  rw [List.getElem?_set]
  by_cases hi : k = i
  · subst hi
    have hl : k < (fl.mapIdx (fun j o => mV as (f j) o)).length := by
      rw [List.length_mapIdx]
      exact (List.getElem?_eq_some_iff.mp h).1
    rw [if_pos rfl, if_pos hl, List.getElem?_mapIdx, h]
    simp [mV, upd]
  · rw [if_neg hi, List.getElem?_mapIdx, List.getElem?_mapIdx]
    congr 1
    funext o
    simp [upd, Ne.symm hi]
end
section
/-! the context of a walk, in one value -/
abbrev mCtx : Type := Jvm.Program × Launch × Env × Room × State × MethodId × Array Value × List Frame × Method × Code × (State → Prop) × (Nat → ClassId) × (Nat → Nat → Nat) × (Nat → ClassId) × (Nat → Nat)
def cL (C : mCtx) : Launch := C.2.1
def cR (C : mCtx) : Room := C.2.2.2.1
def cC (C : mCtx) : Nat → ClassId := C.2.2.2.2.2.2.2.2.2.2.2.1
def cI (C : mCtx) : Nat → Nat → Nat := C.2.2.2.2.2.2.2.2.2.2.2.2.1
def cA (C : mCtx) : Nat → ClassId := C.2.2.2.2.2.2.2.2.2.2.2.2.2.1
def cS (C : mCtx) : Nat → Nat := C.2.2.2.2.2.2.2.2.2.2.2.2.2.2
def mA (as : Nat → Nat) : Nat → Prop := fun q => ∃ k : Nat, k < 111 ∧ q = as k
def mTys (dA : Nat → ClassId) : List (ClassId × FieldType) := [(dA 0, .int), (dA 1, .boolean), (dA 2, .object "SwapCalls$Routine"), (dA 3, .object "SwapCalls$Image")]
def mDis (as : Nat → Nat) : Prop := ∀ i j : Nat, i < 111 → j < 111 → as i = as j → i = j
theorem mSh_len : mSh.length = 111 := by decide +kernel
theorem mDis.D {as : Nat → Nat} (h : mDis as) (dA : Nat → ClassId) (u : MU) : va_D (mA as) (mW dA as u) := by
  have key : ∀ (k : Nat) (q : Nat × va_E), (mW dA as u)[k]? = some q → k < 111 ∧ q.1 = as k := by
    intro k q hq
    unfold mW at hq
    rw [List.getElem?_mapIdx] at hq
    cases hc : mSh[k]? with
    | none => rw [hc] at hq; cases hq
    | some c =>
      rw [hc] at hq
      cases hq
      have := (List.getElem?_eq_some_iff.mp hc).1
      rw [mSh_len] at this
      exact ⟨this, rfl⟩
  refine ⟨fun i j p q hp hq hpq => ?_, fun k q hk => ?_⟩
  · obtain ⟨a1, a2⟩ := key i p hp
    obtain ⟨b1, b2⟩ := key j q hq
    exact h i j a1 b1 (by rw [← a2, ← b2]; exact hpq)
  · obtain ⟨a1, a2⟩ := key k q hk
    exact ⟨k, a1, a2⟩
def mLoc (ls : Array Slot) (nL : Nat) (L : List (Option Value)) : Prop := ls.size = nL ∧ lv_wf ls ∧ ∀ (i : Nat) (v : Value), L[i]? = some (some v) → ls[i]? = some (.val v)
def mPr (L : List (Option Value)) : List (Nat × Value) := L.zipIdx.filterMap (fun p => p.1.map (fun v => (p.2, v)))
theorem mPr_mem {L : List (Option Value)} {i : Nat} {v : Value} : (i, v) ∈ mPr L ↔ L[i]? = some (some v) := by
  unfold mPr
  rw [List.mem_filterMap]
  constructor
  · rintro ⟨⟨o, j⟩, h1, h2⟩
    have h3 := List.mem_zipIdx_iff_getElem?.mp h1
    cases o with
    | none => cases h2
    | some w =>
      cases h2
      exact h3
  · intro h
    exact ⟨(some v, i), List.mem_zipIdx_iff_getElem?.mpr h, rfl⟩
theorem mLoc.has {ls : Array Slot} {nL : Nat} {L : List (Option Value)} (h : mLoc ls nL L) : lv_has ls nL (mPr L) := ⟨h.1, h.2.1, fun q hq => h.2.2 q.1 q.2 (mPr_mem.mp hq)⟩
def mOne (L : List (Option Value)) : Bool := L.all (fun o => match o with
  | none => true
  | some v => v.category == 1)
theorem mLoc.put {ls : Array Slot} {nL i : Nat} {L : List (Option Value)} {x : Value} (hc : mOne L = true) (hi : i < L.length) (h : lv_has ls nL ((i, x) :: (mPr L).filter (fun q => !(q.1 == i) && !(q.1 + 1 == i && q.2.category == 2)))) : mLoc ls nL (L.set i (some x)) := by
  refine ⟨h.1, h.2.1, fun j v hj => ?_⟩
  rw [List.getElem?_set] at hj
  by_cases hji : i = j
  · subst hji
    rw [if_pos rfl, if_pos hi] at hj
    cases hj
    exact h.2.2 (i, x) List.mem_cons_self
  · rw [if_neg hji] at hj
    refine h.2.2 (j, v) (List.mem_cons_of_mem _ (List.mem_filter.mpr ⟨mPr_mem.mpr hj, ?_⟩))
    have h1 : v.category = 1 := by
      have := List.all_eq_true.mp hc (some v) (List.mem_of_getElem? hj)
      simpa using this
    simp [h1, Ne.symm hji]
/-- a walk from a place of the code, whatever the heap, if it holds the cells with these data -/
def wat (C : mCtx) (u : MU) (pc : Nat) (L : List (Option Value)) (st : List Value) : Prop := match C with
  | (p, l, e, R, s, m, args, below, meth, c, Q, dC, dI, dA, as) => ∀ (H : Heap) (locs : List Loc) (ls : Array Slot), va_P (dC, dI) vwCl (mW dA as u) H → va_S (mA as) s.heap H locs → mLoc ls c.maxLocals L → W p l e R s m args below meth c H locs 0 0 Q (F0 m pc ls st)
def mOK (cc : ByteArray) (own : String) (nL fr lo : Nat) (C : mCtx) : Prop := match C with
  | (p, _, _, R, s, m, args, _, _, c, _, dC, dI, dA, as) => p.tables.exec = Jvm.exec ∧ c.code = cc ∧ c.maxLocals = nL ∧ s.vm.findClass own = some m.cls ∧ (∀ w ∈ TB, w.before args s = true) ∧ va_K (dC, dI) vwCl (mTys dA) s ∧ mDis as ∧ fr ≤ R.frames ∧ lo ≤ R.locals
section zst
variable {C : mCtx} {cc : ByteArray} {own : String} {nL fr lo : Nat} {u : MU} {pc : Nat} {L : List (Option Value)} {st : List Value}
theorem z_iload_n (hC : mOK cc own nL fr lo C) {k : Fin 4} {i : Nat} {x : Int32} (hd : decode cc pc = .ok (.iload_n k, 1)) (hi : (k : Nat) = i) (hl : L[i]? = some (some (.int x))) (kk : wat C u (pc + 1) L (.int x :: st)) : wat C u pc L st := by
  obtain ⟨p, l, e, R, s, m, args, below, meth, c, Q, dC, dI, dA, as⟩ := C
  obtain ⟨hx, hb, hml, hown, hts, hK, hD, hfr, hlo⟩ := hC
  intro H locs ls hP hS hL
  exact lv_iload_n hx hb hd hi (hL.2.2 _ _ hl) (kk H locs ls hP hS hL)
theorem z_iload (hC : mOK cc own nL fr lo C) {i : Nat} {x : Int32} (hd : decode cc pc = .ok (.iload i, 2)) (hl : L[i]? = some (some (.int x))) (kk : wat C u (pc + 2) L (.int x :: st)) : wat C u pc L st := by
  obtain ⟨p, l, e, R, s, m, args, below, meth, c, Q, dC, dI, dA, as⟩ := C
  obtain ⟨hx, hb, hml, hown, hts, hK, hD, hfr, hlo⟩ := hC
  intro H locs ls hP hS hL
  exact lv_iload hx hb hd (hL.2.2 _ _ hl) (kk H locs ls hP hS hL)
theorem z_lload_n (hC : mOK cc own nL fr lo C) {k : Fin 4} {i : Nat} {x : Int64} (hd : decode cc pc = .ok (.lload_n k, 1)) (hi : (k : Nat) = i) (hl : L[i]? = some (some (.long x))) (kk : wat C u (pc + 1) L (.long x :: st)) : wat C u pc L st := by
  obtain ⟨p, l, e, R, s, m, args, below, meth, c, Q, dC, dI, dA, as⟩ := C
  obtain ⟨hx, hb, hml, hown, hts, hK, hD, hfr, hlo⟩ := hC
  intro H locs ls hP hS hL
  exact lv_lload_n hx hb hd hi (hL.2.2 _ _ hl) (kk H locs ls hP hS hL)
theorem z_lload (hC : mOK cc own nL fr lo C) {i : Nat} {x : Int64} (hd : decode cc pc = .ok (.lload i, 2)) (hl : L[i]? = some (some (.long x))) (kk : wat C u (pc + 2) L (.long x :: st)) : wat C u pc L st := by
  obtain ⟨p, l, e, R, s, m, args, below, meth, c, Q, dC, dI, dA, as⟩ := C
  obtain ⟨hx, hb, hml, hown, hts, hK, hD, hfr, hlo⟩ := hC
  intro H locs ls hP hS hL
  exact lv_lload hx hb hd (hL.2.2 _ _ hl) (kk H locs ls hP hS hL)
theorem z_aload_n (hC : mOK cc own nL fr lo C) {k : Fin 4} {i q : Nat} (hd : decode cc pc = .ok (.aload_n k, 1)) (hi : (k : Nat) = i) (hl : L[i]? = some (some (.ref (cS C q)))) (kk : wat C u (pc + 1) L (.ref (cS C q) :: st)) : wat C u pc L st := by
  obtain ⟨p, l, e, R, s, m, args, below, meth, c, Q, dC, dI, dA, as⟩ := C
  obtain ⟨hx, hb, hml, hown, hts, hK, hD, hfr, hlo⟩ := hC
  intro H locs ls hP hS hL
  exact lv_aload_n hx hb hd hi (hL.2.2 _ _ hl) (kk H locs ls hP hS hL)
theorem z_aload (hC : mOK cc own nL fr lo C) {i q : Nat} (hd : decode cc pc = .ok (.aload i, 2)) (hl : L[i]? = some (some (.ref (cS C q)))) (kk : wat C u (pc + 2) L (.ref (cS C q) :: st)) : wat C u pc L st := by
  obtain ⟨p, l, e, R, s, m, args, below, meth, c, Q, dC, dI, dA, as⟩ := C
  obtain ⟨hx, hb, hml, hown, hts, hK, hD, hfr, hlo⟩ := hC
  intro H locs ls hP hS hL
  exact lv_aload hx hb hd (hL.2.2 _ _ hl) (kk H locs ls hP hS hL)
theorem z_iconst (hC : mOK cc own nL fr lo C) {n : Int} {v : Int32} (hd : decode cc pc = .ok (.iconst n, 1)) (hv : Int32.ofInt n = v) (kk : wat C u (pc + 1) L (.int v :: st)) : wat C u pc L st := by
  obtain ⟨p, l, e, R, s, m, args, below, meth, c, Q, dC, dI, dA, as⟩ := C
  obtain ⟨hx, hb, hml, hown, hts, hK, hD, hfr, hlo⟩ := hC
  intro H locs ls hP hS hL
  exact lv_iconst hx hb hd hv (kk H locs ls hP hS hL)
theorem z_bipush (hC : mOK cc own nL fr lo C) {n : Int} {v : Int32} (hd : decode cc pc = .ok (.bipush n, 2)) (hv : (Int8.ofInt n).toInt32 = v) (kk : wat C u (pc + 2) L (.int v :: st)) : wat C u pc L st := by
  obtain ⟨p, l, e, R, s, m, args, below, meth, c, Q, dC, dI, dA, as⟩ := C
  obtain ⟨hx, hb, hml, hown, hts, hK, hD, hfr, hlo⟩ := hC
  intro H locs ls hP hS hL
  exact lv_bipush hx hb hd hv (kk H locs ls hP hS hL)
theorem z_sipush (hC : mOK cc own nL fr lo C) {n : Int} {v : Int32} (hd : decode cc pc = .ok (.sipush n, 3)) (hv : (Int16.ofInt n).toInt32 = v) (kk : wat C u (pc + 3) L (.int v :: st)) : wat C u pc L st := by
  obtain ⟨p, l, e, R, s, m, args, below, meth, c, Q, dC, dI, dA, as⟩ := C
  obtain ⟨hx, hb, hml, hown, hts, hK, hD, hfr, hlo⟩ := hC
  intro H locs ls hP hS hL
  exact lv_sipush hx hb hd hv (kk H locs ls hP hS hL)
theorem z_lconst (hC : mOK cc own nL fr lo C) {n : Fin 2} {v : Int64} (hd : decode cc pc = .ok (.lconst n, 1)) (hv : Int64.ofNat (n : Nat) = v) (kk : wat C u (pc + 1) L (.long v :: st)) : wat C u pc L st := by
  obtain ⟨p, l, e, R, s, m, args, below, meth, c, Q, dC, dI, dA, as⟩ := C
  obtain ⟨hx, hb, hml, hown, hts, hK, hD, hfr, hlo⟩ := hC
  intro H locs ls hP hS hL
  exact lv_lconst hx hb hd hv (kk H locs ls hP hS hL)
theorem z_ldc2 (hC : mOK cc own nL fr lo C) {i : Nat} {v : Int64} (hw : Cond.constantLong own i v ∈ TB) (hd : decode cc pc = .ok (.ldc2_w i, 3)) (kk : wat C u (pc + 3) L (.long v :: st)) : wat C u pc L st := by
  obtain ⟨p, l, e, R, s, m, args, below, meth, c, Q, dC, dI, dA, as⟩ := C
  obtain ⟨hx, hb, hml, hown, hts, hK, hD, hfr, hlo⟩ := hC
  intro H locs ls hP hS hL
  exact lv_ldc2 hx hb hown (hts _ hw) hd (kk H locs ls hP hS hL)
theorem z_ldc (hC : mOK cc own nL fr lo C) {i : Nat} {v : Int32} (hw : Cond.constant own i v ∈ TB) (hd : decode cc pc = .ok (.ldc i, 2)) (kk : wat C u (pc + 2) L (.int v :: st)) : wat C u pc L st := by
  obtain ⟨p, l, e, R, s, m, args, below, meth, c, Q, dC, dI, dA, as⟩ := C
  obtain ⟨hx, hb, hml, hown, hts, hK, hD, hfr, hlo⟩ := hC
  intro H locs ls hP hS hL
  exact lv_ldc hx hb hown (hts _ hw) hd (kk H locs ls hP hS hL)
theorem z_istore_n (hC : mOK cc own nL fr lo C) {k : Fin 4} {i : Nat} {x : Int32} (hd : decode cc pc = .ok (.istore_n k, 1)) (hi : (k : Nat) = i) (hc : mOne L = true) (hn : i < L.length) (hn2 : i < nL) (kk : wat C u (pc + 1) (L.set i (some (.int x))) st) : wat C u pc L (.int x :: st) := by
  obtain ⟨p, l, e, R, s, m, args, below, meth, c, Q, dC, dI, dA, as⟩ := C
  obtain ⟨hx, hb, hml, hown, hts, hK, hD, hfr, hlo⟩ := hC
  intro H locs ls hP hS hL
  exact lv_istore_n hx hb hd hi hL.has (by rw [hml]; exact hn2) rfl (fun ls' h => kk H locs ls' hP hS (mLoc.put hc hn h))
theorem z_istore (hC : mOK cc own nL fr lo C) {i : Nat} {x : Int32} (hd : decode cc pc = .ok (.istore i, 2)) (hc : mOne L = true) (hn : i < L.length) (hn2 : i < nL) (kk : wat C u (pc + 2) (L.set i (some (.int x))) st) : wat C u pc L (.int x :: st) := by
  obtain ⟨p, l, e, R, s, m, args, below, meth, c, Q, dC, dI, dA, as⟩ := C
  obtain ⟨hx, hb, hml, hown, hts, hK, hD, hfr, hlo⟩ := hC
  intro H locs ls hP hS hL
  exact lv_istore hx hb hd hL.has (by rw [hml]; exact hn2) rfl (fun ls' h => kk H locs ls' hP hS (mLoc.put hc hn h))
theorem z_astore_n (hC : mOK cc own nL fr lo C) {k : Fin 4} {i q : Nat} (hd : decode cc pc = .ok (.astore_n k, 1)) (hi : (k : Nat) = i) (hc : mOne L = true) (hn : i < L.length) (hn2 : i < nL) (kk : wat C u (pc + 1) (L.set i (some (.ref (cS C q)))) st) : wat C u pc L (.ref (cS C q) :: st) := by
  obtain ⟨p, l, e, R, s, m, args, below, meth, c, Q, dC, dI, dA, as⟩ := C
  obtain ⟨hx, hb, hml, hown, hts, hK, hD, hfr, hlo⟩ := hC
  intro H locs ls hP hS hL
  exact lv_astore_n hx hb hd hi hL.has (by rw [hml]; exact hn2) rfl (fun ls' h => kk H locs ls' hP hS (mLoc.put hc hn h))
theorem z_astore (hC : mOK cc own nL fr lo C) {i q : Nat} (hd : decode cc pc = .ok (.astore i, 2)) (hc : mOne L = true) (hn : i < L.length) (hn2 : i < nL) (kk : wat C u (pc + 2) (L.set i (some (.ref (cS C q)))) st) : wat C u pc L (.ref (cS C q) :: st) := by
  obtain ⟨p, l, e, R, s, m, args, below, meth, c, Q, dC, dI, dA, as⟩ := C
  obtain ⟨hx, hb, hml, hown, hts, hK, hD, hfr, hlo⟩ := hC
  intro H locs ls hP hS hL
  exact lv_astore hx hb hd hL.has (by rw [hml]; exact hn2) rfl (fun ls' h => kk H locs ls' hP hS (mLoc.put hc hn h))
theorem z_iinc (hC : mOK cc own nL fr lo C) {i : Nat} {n : Int} {x v : Int32} (hd : decode cc pc = .ok (.iinc i n, 3)) (hl : L[i]? = some (some (.int x))) (hv : x + Int32.ofInt n = v) (hc : mOne L = true) (hn2 : i < nL) (kk : wat C u (pc + 3) (L.set i (some (.int v))) st) : wat C u pc L st := by
  obtain ⟨p, l, e, R, s, m, args, below, meth, c, Q, dC, dI, dA, as⟩ := C
  obtain ⟨hx, hb, hml, hown, hts, hK, hD, hfr, hlo⟩ := hC
  intro H locs ls hP hS hL
  obtain ⟨k, hk⟩ := List.getElem?_of_mem (mPr_mem.mpr hl)
  exact lv_iinc hx hb hd hL.has hk hv (by rw [hml]; exact hn2) rfl (fun ls' h => kk H locs ls' hP hS (mLoc.put hc (List.getElem?_eq_some_iff.mp hl).1 h))
theorem z_dup (hC : mOK cc own nL fr lo C) {v : Value} (hd : decode cc pc = .ok (.dup, 1)) (hv : v.category = 1) (kk : wat C u (pc + 1) L (v :: v :: st)) : wat C u pc L (v :: st) := by
  obtain ⟨p, l, e, R, s, m, args, below, meth, c, Q, dC, dI, dA, as⟩ := C
  obtain ⟨hx, hb, hml, hown, hts, hK, hD, hfr, hlo⟩ := hC
  intro H locs ls hP hS hL
  exact lv_dup hx hb hd hv (kk H locs ls hP hS hL)
theorem z_dup2 (hC : mOK cc own nL fr lo C) {v w : Value} (hd : decode cc pc = .ok (.dup2, 1)) (hv : v.category = 1) (hw : w.category = 1) (kk : wat C u (pc + 1) L (v :: w :: v :: w :: st)) : wat C u pc L (v :: w :: st) := by
  obtain ⟨p, l, e, R, s, m, args, below, meth, c, Q, dC, dI, dA, as⟩ := C
  obtain ⟨hx, hb, hml, hown, hts, hK, hD, hfr, hlo⟩ := hC
  intro H locs ls hP hS hL
  exact lv_dup2_11 hx hb hd hv hw (kk H locs ls hP hS hL)
theorem z_iadd (hC : mOK cc own nL fr lo C) {x y : Int32} (hd : decode cc pc = .ok (.iadd, 1)) (kk : wat C u (pc + 1) L (.int (x + y) :: st)) : wat C u pc L (.int y :: .int x :: st) := by
  obtain ⟨p, l, e, R, s, m, args, below, meth, c, Q, dC, dI, dA, as⟩ := C
  obtain ⟨hx, hb, hml, hown, hts, hK, hD, hfr, hlo⟩ := hC
  intro H locs ls hP hS hL
  exact lv_iadd hx hb hd (kk H locs ls hP hS hL)
theorem z_isub (hC : mOK cc own nL fr lo C) {x y : Int32} (hd : decode cc pc = .ok (.isub, 1)) (kk : wat C u (pc + 1) L (.int (x - y) :: st)) : wat C u pc L (.int y :: .int x :: st) := by
  obtain ⟨p, l, e, R, s, m, args, below, meth, c, Q, dC, dI, dA, as⟩ := C
  obtain ⟨hx, hb, hml, hown, hts, hK, hD, hfr, hlo⟩ := hC
  intro H locs ls hP hS hL
  exact lv_isub hx hb hd (kk H locs ls hP hS hL)
theorem z_imul (hC : mOK cc own nL fr lo C) {x y : Int32} (hd : decode cc pc = .ok (.imul, 1)) (kk : wat C u (pc + 1) L (.int (x * y) :: st)) : wat C u pc L (.int y :: .int x :: st) := by
  obtain ⟨p, l, e, R, s, m, args, below, meth, c, Q, dC, dI, dA, as⟩ := C
  obtain ⟨hx, hb, hml, hown, hts, hK, hD, hfr, hlo⟩ := hC
  intro H locs ls hP hS hL
  exact lv_imul hx hb hd (kk H locs ls hP hS hL)
theorem z_iand (hC : mOK cc own nL fr lo C) {x y : Int32} (hd : decode cc pc = .ok (.iand, 1)) (kk : wat C u (pc + 1) L (.int (x &&& y) :: st)) : wat C u pc L (.int y :: .int x :: st) := by
  obtain ⟨p, l, e, R, s, m, args, below, meth, c, Q, dC, dI, dA, as⟩ := C
  obtain ⟨hx, hb, hml, hown, hts, hK, hD, hfr, hlo⟩ := hC
  intro H locs ls hP hS hL
  exact lv_iand hx hb hd (kk H locs ls hP hS hL)
theorem z_ior (hC : mOK cc own nL fr lo C) {x y : Int32} (hd : decode cc pc = .ok (.ior, 1)) (kk : wat C u (pc + 1) L (.int (x ||| y) :: st)) : wat C u pc L (.int y :: .int x :: st) := by
  obtain ⟨p, l, e, R, s, m, args, below, meth, c, Q, dC, dI, dA, as⟩ := C
  obtain ⟨hx, hb, hml, hown, hts, hK, hD, hfr, hlo⟩ := hC
  intro H locs ls hP hS hL
  exact lv_ior hx hb hd (kk H locs ls hP hS hL)
theorem z_ixor (hC : mOK cc own nL fr lo C) {x y : Int32} (hd : decode cc pc = .ok (.ixor, 1)) (kk : wat C u (pc + 1) L (.int (x ^^^ y) :: st)) : wat C u pc L (.int y :: .int x :: st) := by
  obtain ⟨p, l, e, R, s, m, args, below, meth, c, Q, dC, dI, dA, as⟩ := C
  obtain ⟨hx, hb, hml, hown, hts, hK, hD, hfr, hlo⟩ := hC
  intro H locs ls hP hS hL
  exact lv_ixor hx hb hd (kk H locs ls hP hS hL)
theorem z_ishl (hC : mOK cc own nL fr lo C) {x y : Int32} (hd : decode cc pc = .ok (.ishl, 1)) (kk : wat C u (pc + 1) L (.int (x <<< (y &&& 31)) :: st)) : wat C u pc L (.int y :: .int x :: st) := by
  obtain ⟨p, l, e, R, s, m, args, below, meth, c, Q, dC, dI, dA, as⟩ := C
  obtain ⟨hx, hb, hml, hown, hts, hK, hD, hfr, hlo⟩ := hC
  intro H locs ls hP hS hL
  exact lv_ishl hx hb hd (kk H locs ls hP hS hL)
theorem z_ishr (hC : mOK cc own nL fr lo C) {x y : Int32} (hd : decode cc pc = .ok (.ishr, 1)) (kk : wat C u (pc + 1) L (.int (x >>> (y &&& 31)) :: st)) : wat C u pc L (.int y :: .int x :: st) := by
  obtain ⟨p, l, e, R, s, m, args, below, meth, c, Q, dC, dI, dA, as⟩ := C
  obtain ⟨hx, hb, hml, hown, hts, hK, hD, hfr, hlo⟩ := hC
  intro H locs ls hP hS hL
  exact lv_ishr hx hb hd (kk H locs ls hP hS hL)
theorem z_idiv (hC : mOK cc own nL fr lo C) {x y : Int32} (hd : decode cc pc = .ok (.idiv, 1)) (hne : ¬ y = 0) (kk : wat C u (pc + 1) L (.int (x / y) :: st)) : wat C u pc L (.int y :: .int x :: st) := by
  obtain ⟨p, l, e, R, s, m, args, below, meth, c, Q, dC, dI, dA, as⟩ := C
  obtain ⟨hx, hb, hml, hown, hts, hK, hD, hfr, hlo⟩ := hC
  intro H locs ls hP hS hL
  exact lv_idiv hx hb hd hne (kk H locs ls hP hS hL)
theorem z_irem (hC : mOK cc own nL fr lo C) {x y : Int32} (hd : decode cc pc = .ok (.irem, 1)) (hne : ¬ y = 0) (kk : wat C u (pc + 1) L (.int (x - x / y * y) :: st)) : wat C u pc L (.int y :: .int x :: st) := by
  obtain ⟨p, l, e, R, s, m, args, below, meth, c, Q, dC, dI, dA, as⟩ := C
  obtain ⟨hx, hb, hml, hown, hts, hK, hD, hfr, hlo⟩ := hC
  intro H locs ls hP hS hL
  exact lv_irem hx hb hd hne (kk H locs ls hP hS hL)
theorem z_i2l (hC : mOK cc own nL fr lo C) {x : Int32} (hd : decode cc pc = .ok (.i2l, 1)) (kk : wat C u (pc + 1) L (.long x.toInt64 :: st)) : wat C u pc L (.int x :: st) := by
  obtain ⟨p, l, e, R, s, m, args, below, meth, c, Q, dC, dI, dA, as⟩ := C
  obtain ⟨hx, hb, hml, hown, hts, hK, hD, hfr, hlo⟩ := hC
  intro H locs ls hP hS hL
  exact lv_i2l hx hb hd rfl (kk H locs ls hP hS hL)
theorem z_lcmp (hC : mOK cc own nL fr lo C) {x y : Int64} (hd : decode cc pc = .ok (.lcmp, 1)) (kk : wat C u (pc + 1) L (.int (lg_cmp x y) :: st)) : wat C u pc L (.long y :: .long x :: st) := by
  obtain ⟨p, l, e, R, s, m, args, below, meth, c, Q, dC, dI, dA, as⟩ := C
  obtain ⟨hx, hb, hml, hown, hts, hK, hD, hfr, hlo⟩ := hC
  intro H locs ls hP hS hL
  exact W.lcmp hx hb hd (kk H locs ls hP hS hL)
theorem z_if_eq (hC : mOK cc own nL fr lo C) {x : Int32} {off : Int} (tgt : Nat) (hd : decode cc pc = .ok (.ifCond .eq off, 3)) (ht : (pc : Int) + off = (tgt : Int)) (kt : x = 0 → wat C u tgt L st) (kf : ¬ x = 0 → wat C u (pc + 3) L st) : wat C u pc L (.int x :: st) := by
  obtain ⟨p, l, e, R, s, m, args, below, meth, c, Q, dC, dI, dA, as⟩ := C
  obtain ⟨hx, hb, hml, hown, hts, hK, hD, hfr, hlo⟩ := hC
  intro H locs ls hP hS hL
  exact lv_if_eq hx hb hd ht (fun h => kt h H locs ls hP hS hL) (fun h => kf h H locs ls hP hS hL)
theorem z_icmp_eq (hC : mOK cc own nL fr lo C) {x y : Int32} {off : Int} (tgt : Nat) (hd : decode cc pc = .ok (.if_icmp .eq off, 3)) (ht : (pc : Int) + off = (tgt : Int)) (kt : x = y → wat C u tgt L st) (kf : ¬ x = y → wat C u (pc + 3) L st) : wat C u pc L (.int y :: .int x :: st) := by
  obtain ⟨p, l, e, R, s, m, args, below, meth, c, Q, dC, dI, dA, as⟩ := C
  obtain ⟨hx, hb, hml, hown, hts, hK, hD, hfr, hlo⟩ := hC
  intro H locs ls hP hS hL
  exact lv_icmp_eq hx hb hd ht (fun h => kt h H locs ls hP hS hL) (fun h => kf h H locs ls hP hS hL)
theorem z_if_ne (hC : mOK cc own nL fr lo C) {x : Int32} {off : Int} (tgt : Nat) (hd : decode cc pc = .ok (.ifCond .ne off, 3)) (ht : (pc : Int) + off = (tgt : Int)) (kt : ¬ x = 0 → wat C u tgt L st) (kf : x = 0 → wat C u (pc + 3) L st) : wat C u pc L (.int x :: st) := by
  obtain ⟨p, l, e, R, s, m, args, below, meth, c, Q, dC, dI, dA, as⟩ := C
  obtain ⟨hx, hb, hml, hown, hts, hK, hD, hfr, hlo⟩ := hC
  intro H locs ls hP hS hL
  exact lv_if_ne hx hb hd ht (fun h => kt h H locs ls hP hS hL) (fun h => kf h H locs ls hP hS hL)
theorem z_icmp_ne (hC : mOK cc own nL fr lo C) {x y : Int32} {off : Int} (tgt : Nat) (hd : decode cc pc = .ok (.if_icmp .ne off, 3)) (ht : (pc : Int) + off = (tgt : Int)) (kt : ¬ x = y → wat C u tgt L st) (kf : x = y → wat C u (pc + 3) L st) : wat C u pc L (.int y :: .int x :: st) := by
  obtain ⟨p, l, e, R, s, m, args, below, meth, c, Q, dC, dI, dA, as⟩ := C
  obtain ⟨hx, hb, hml, hown, hts, hK, hD, hfr, hlo⟩ := hC
  intro H locs ls hP hS hL
  exact lv_icmp_ne hx hb hd ht (fun h => kt h H locs ls hP hS hL) (fun h => kf h H locs ls hP hS hL)
theorem z_if_lt (hC : mOK cc own nL fr lo C) {x : Int32} {off : Int} (tgt : Nat) (hd : decode cc pc = .ok (.ifCond .lt off, 3)) (ht : (pc : Int) + off = (tgt : Int)) (kt : x < 0 → wat C u tgt L st) (kf : ¬ x < 0 → wat C u (pc + 3) L st) : wat C u pc L (.int x :: st) := by
  obtain ⟨p, l, e, R, s, m, args, below, meth, c, Q, dC, dI, dA, as⟩ := C
  obtain ⟨hx, hb, hml, hown, hts, hK, hD, hfr, hlo⟩ := hC
  intro H locs ls hP hS hL
  exact lv_if_lt hx hb hd ht (fun h => kt h H locs ls hP hS hL) (fun h => kf h H locs ls hP hS hL)
theorem z_icmp_lt (hC : mOK cc own nL fr lo C) {x y : Int32} {off : Int} (tgt : Nat) (hd : decode cc pc = .ok (.if_icmp .lt off, 3)) (ht : (pc : Int) + off = (tgt : Int)) (kt : x < y → wat C u tgt L st) (kf : ¬ x < y → wat C u (pc + 3) L st) : wat C u pc L (.int y :: .int x :: st) := by
  obtain ⟨p, l, e, R, s, m, args, below, meth, c, Q, dC, dI, dA, as⟩ := C
  obtain ⟨hx, hb, hml, hown, hts, hK, hD, hfr, hlo⟩ := hC
  intro H locs ls hP hS hL
  exact lv_icmp_lt hx hb hd ht (fun h => kt h H locs ls hP hS hL) (fun h => kf h H locs ls hP hS hL)
theorem z_if_ge (hC : mOK cc own nL fr lo C) {x : Int32} {off : Int} (tgt : Nat) (hd : decode cc pc = .ok (.ifCond .ge off, 3)) (ht : (pc : Int) + off = (tgt : Int)) (kt : 0 ≤ x → wat C u tgt L st) (kf : ¬ 0 ≤ x → wat C u (pc + 3) L st) : wat C u pc L (.int x :: st) := by
  obtain ⟨p, l, e, R, s, m, args, below, meth, c, Q, dC, dI, dA, as⟩ := C
  obtain ⟨hx, hb, hml, hown, hts, hK, hD, hfr, hlo⟩ := hC
  intro H locs ls hP hS hL
  exact lv_if_ge hx hb hd ht (fun h => kt h H locs ls hP hS hL) (fun h => kf h H locs ls hP hS hL)
theorem z_icmp_ge (hC : mOK cc own nL fr lo C) {x y : Int32} {off : Int} (tgt : Nat) (hd : decode cc pc = .ok (.if_icmp .ge off, 3)) (ht : (pc : Int) + off = (tgt : Int)) (kt : y ≤ x → wat C u tgt L st) (kf : ¬ y ≤ x → wat C u (pc + 3) L st) : wat C u pc L (.int y :: .int x :: st) := by
  obtain ⟨p, l, e, R, s, m, args, below, meth, c, Q, dC, dI, dA, as⟩ := C
  obtain ⟨hx, hb, hml, hown, hts, hK, hD, hfr, hlo⟩ := hC
  intro H locs ls hP hS hL
  exact lv_icmp_ge hx hb hd ht (fun h => kt h H locs ls hP hS hL) (fun h => kf h H locs ls hP hS hL)
theorem z_if_gt (hC : mOK cc own nL fr lo C) {x : Int32} {off : Int} (tgt : Nat) (hd : decode cc pc = .ok (.ifCond .gt off, 3)) (ht : (pc : Int) + off = (tgt : Int)) (kt : 0 < x → wat C u tgt L st) (kf : ¬ 0 < x → wat C u (pc + 3) L st) : wat C u pc L (.int x :: st) := by
  obtain ⟨p, l, e, R, s, m, args, below, meth, c, Q, dC, dI, dA, as⟩ := C
  obtain ⟨hx, hb, hml, hown, hts, hK, hD, hfr, hlo⟩ := hC
  intro H locs ls hP hS hL
  exact lv_if_gt hx hb hd ht (fun h => kt h H locs ls hP hS hL) (fun h => kf h H locs ls hP hS hL)
theorem z_icmp_gt (hC : mOK cc own nL fr lo C) {x y : Int32} {off : Int} (tgt : Nat) (hd : decode cc pc = .ok (.if_icmp .gt off, 3)) (ht : (pc : Int) + off = (tgt : Int)) (kt : y < x → wat C u tgt L st) (kf : ¬ y < x → wat C u (pc + 3) L st) : wat C u pc L (.int y :: .int x :: st) := by
  obtain ⟨p, l, e, R, s, m, args, below, meth, c, Q, dC, dI, dA, as⟩ := C
  obtain ⟨hx, hb, hml, hown, hts, hK, hD, hfr, hlo⟩ := hC
  intro H locs ls hP hS hL
  exact lv_icmp_gt hx hb hd ht (fun h => kt h H locs ls hP hS hL) (fun h => kf h H locs ls hP hS hL)
theorem z_if_le (hC : mOK cc own nL fr lo C) {x : Int32} {off : Int} (tgt : Nat) (hd : decode cc pc = .ok (.ifCond .le off, 3)) (ht : (pc : Int) + off = (tgt : Int)) (kt : x ≤ 0 → wat C u tgt L st) (kf : ¬ x ≤ 0 → wat C u (pc + 3) L st) : wat C u pc L (.int x :: st) := by
  obtain ⟨p, l, e, R, s, m, args, below, meth, c, Q, dC, dI, dA, as⟩ := C
  obtain ⟨hx, hb, hml, hown, hts, hK, hD, hfr, hlo⟩ := hC
  intro H locs ls hP hS hL
  exact lv_if_le hx hb hd ht (fun h => kt h H locs ls hP hS hL) (fun h => kf h H locs ls hP hS hL)
theorem z_icmp_le (hC : mOK cc own nL fr lo C) {x y : Int32} {off : Int} (tgt : Nat) (hd : decode cc pc = .ok (.if_icmp .le off, 3)) (ht : (pc : Int) + off = (tgt : Int)) (kt : x ≤ y → wat C u tgt L st) (kf : ¬ x ≤ y → wat C u (pc + 3) L st) : wat C u pc L (.int y :: .int x :: st) := by
  obtain ⟨p, l, e, R, s, m, args, below, meth, c, Q, dC, dI, dA, as⟩ := C
  obtain ⟨hx, hb, hml, hown, hts, hK, hD, hfr, hlo⟩ := hC
  intro H locs ls hP hS hL
  exact lv_icmp_le hx hb hd ht (fun h => kt h H locs ls hP hS hL) (fun h => kf h H locs ls hP hS hL)
theorem z_goto (hC : mOK cc own nL fr lo C) {off : Int} (tgt : Nat) (hd : decode cc pc = .ok (.goto off, 3)) (ht : (pc : Int) + off = (tgt : Int)) (kk : wat C u tgt L st) : wat C u pc L st := by
  obtain ⟨p, l, e, R, s, m, args, below, meth, c, Q, dC, dI, dA, as⟩ := C
  obtain ⟨hx, hb, hml, hown, hts, hK, hD, hfr, hlo⟩ := hC
  intro H locs ls hP hS hL
  exact lv_goto hx hb hd ht (kk H locs ls hP hS hL)
theorem z_tin (hC : mOK cc own nL fr lo C) {dflt a b : Int} {offs : Array Int} {len : Nat} {x : Int32} {off : Int} (tgt : Nat) (hd : decode cc pc = .ok (.tableswitch dflt a b offs, len)) (v : Int32) (hv : x = v) (h1 : ¬ v.toInt < a) (h2 : ¬ b < v.toInt) (ho : offs[(v.toInt - a).toNat]? = some off) (ht : (pc : Int) + off = (tgt : Int)) (kk : wat C u tgt L st) : wat C u pc L (.int x :: st) := by
  subst hv
  obtain ⟨p, l, e, R, s, m, args, below, meth, c, Q, dC, dI, dA, as⟩ := C
  obtain ⟨hx, hb, hml, hown, hts, hK, hD, hfr, hlo⟩ := hC
  intro H locs ls hP hS hL
  exact lv_tableIn hx hb hd h1 h2 ho ht (kk H locs ls hP hS hL)
theorem z_tout (hC : mOK cc own nL fr lo C) {dflt a b : Int} {offs : Array Int} {len : Nat} {x : Int32} (tgt : Nat) (hd : decode cc pc = .ok (.tableswitch dflt a b offs, len)) (h : x.toInt < a ∨ b < x.toInt) (ht : (pc : Int) + dflt = (tgt : Int)) (kk : wat C u tgt L st) : wat C u pc L (.int x :: st) := by
  obtain ⟨p, l, e, R, s, m, args, below, meth, c, Q, dC, dI, dA, as⟩ := C
  obtain ⟨hx, hb, hml, hown, hts, hK, hD, hfr, hlo⟩ := hC
  intro H locs ls hP hS hL
  exact lv_tableOut hx hb hd h ht (kk H locs ls hP hS hL)
theorem z_look (hC : mOK cc own nL fr lo C) {dflt : Int} {ps : Array (Int × Int)} {len : Nat} {x : Int32} {off : Int} (tgt : Nat) (hd : decode cc pc = .ok (.lookupswitch dflt ps, len)) (hp : (ps.toList.zip (ps.toList.drop 1)).all (fun (a, next) => a.1 < next.1) = true) (ho : Op.lookupswitch.offset ps.toList dflt x.toInt = off) (ht : (pc : Int) + off = (tgt : Int)) (kk : wat C u tgt L st) : wat C u pc L (.int x :: st) := by
  obtain ⟨p, l, e, R, s, m, args, below, meth, c, Q, dC, dI, dA, as⟩ := C
  obtain ⟨hx, hb, hml, hown, hts, hK, hD, hfr, hlo⟩ := hC
  intro H locs ls hP hS hL
  exact lv_lookup hx hb hd hp ho ht (kk H locs ls hP hS hL)
/-- fewer locals -/
def mMask (b : List Bool) (L : List (Option Value)) : List (Option Value) := List.zipWith (fun b o => if b = true then o else none) b L
theorem z_mask (b : List Bool) (kk : wat C u pc (mMask b L) st) : wat C u pc L st := by
  obtain ⟨p, l, e, R, s, m, args, below, meth, c, Q, dC, dI, dA, as⟩ := C
  intro H locs ls hP hS hL
  refine kk H locs ls hP hS ⟨hL.1, hL.2.1, fun i v h => hL.2.2 i v ?_⟩
  unfold mMask at h
  rw [List.getElem?_zipWith] at h
  cases hb : b[i]? with
  | none => rw [hb] at h; cases h
  | some t =>
    cases ho : L[i]? with
    | none => rw [hb, ho] at h; cases h
    | some o =>
      rw [hb, ho] at h
      cases t with
      | false => cases h
      | true => exact h
end zst
end
section
def mFld (own : String) (idx ci k : Nat) : Prop := ∃ (Cn : String) (T : u_T) (N : Nat), vwCl[ci]? = some (Cn, T, N) ∧ k < N ∧ (∀ w ∈ u_ws Cn T N, w ∈ TB) ∧ (Cond.fieldLink own idx (T k).1 (T k).2.1 (T k).2.2.1 ∈ TB ∨ ∃ host : String, Cond.fieldLinkNest own idx (T k).1 (T k).2.1 (T k).2.2.1 host ∈ TB)
def mFldP (own : String) (idx ci k : Nat) (ty : FieldType) : Prop := ∃ (Cn : String) (T : u_T) (N : Nat) (ty0 : Nat → FieldType), vwCl[ci]? = some (Cn, T, N) ∧ k < N ∧ (∀ w ∈ u_ws Cn T N, w ∈ TB) ∧ (Cond.fieldLink own idx (T k).1 (T k).2.1 (T k).2.2.1 ∈ TB ∨ ∃ host : String, Cond.fieldLinkNest own idx (T k).1 (T k).2.1 (T k).2.2.1 host ∈ TB) ∧ (∀ k, k < N → parseFieldDescriptor (T k).2.2.1 = some (ty0 k)) ∧ (∀ a, a < N → ∀ b, b < N → a ≠ b → (T a).2.1 ≠ (T b).2.1) ∧ (T k).2.2.2 = false ∧ parseFieldDescriptor (T k).2.2.1 = some ty
def mWd (dC : Nat → ClassId) (dI : Nat → Nat → Nat) (dA : Nat → ClassId) (as : Nat → Nat) (u : MU) (U : State) : Prop := va_P (dC, dI) vwCl (mW dA as u) U.heap ∧ va_K (dC, dI) vwCl (mTys dA) U
def mMI (l : Launch) (dC : Nat → ClassId) (dI : Nat → Nat → Nat) (dA : Nat → ClassId) (as : Nat → Nat) (y : MethodName) (cc : ByteArray) (mL : Nat) (rt : FieldType) (fr lo : Nat) (av : List Value) (u : MU) (r : Int32) (u' : MU) : Prop := Met l y (Cond.code y cc mL (some rt) :: TB) { frames := fr, cells := 0, slots := 0, locals := lo } (va_Pc av (mWd dC dI dA as u)) (va_Qi (fun x (_ : Unit) => x = r) (fun _ t => mWd dC dI dA as u' t) (mA as)) 0 0 (mA as)
def mMV (l : Launch) (dC : Nat → ClassId) (dI : Nat → Nat → Nat) (dA : Nat → ClassId) (as : Nat → Nat) (y : MethodName) (cc : ByteArray) (mL : Nat) (fr lo : Nat) (av : List Value) (u : MU) (u' : MU) : Prop := Met l y (Cond.code y cc mL none :: TB) { frames := fr, cells := 0, slots := 0, locals := lo } (va_Pc av (mWd dC dI dA as u)) (va_Qv (fun (_ : Unit) => True) (fun _ t => mWd dC dI dA as u' t) (mA as)) 0 0 (mA as)
def mEndI (C : mCtx) (ty : FieldType) (r : Int32) (u : MU) : Prop := match C with
  | (_, _, _, _, s, _, args, below, meth, _, Q, dC, dI, dA, as) => Q = MQ below (va_Qi (fun x (_ : Unit) => x = r) (fun _ t => mWd dC dI dA as u t) (mA as)) args s 0 0 (mA as) ∧ meth.sig.returnType = some ty ∧ meth.locks = false
def mEndV (C : mCtx) (u : MU) : Prop := match C with
  | (_, _, _, _, s, _, args, below, meth, _, Q, dC, dI, dA, as) => Q = MQ below (va_Qv (fun (_ : Unit) => True) (fun _ t => mWd dC dI dA as u t) (mA as)) args s 0 0 (mA as) ∧ meth.sig.returnType = none ∧ meth.locks = false
def mCal (y : MethodName) (bytes : ByteArray) (mL : Nat) (rt : Option FieldType) (n : Nat) : Prop := Cond.code y bytes mL rt ∈ TB ∧ Cond.initialized y.cls ∈ TB ∧ (Cond.instanceMethod y ∈ TB ∧ Cond.selects y.cls y y ∈ TB) ∧ (y.cls ≠ "java/lang/invoke/MethodHandle" ∧ y.cls ≠ "java/lang/invoke/VarHandle") ∧ (parseMethodDescriptor y.desc).map (fun d => d.parameters.length) = some n
def mCalS (y : MethodName) (bytes : ByteArray) (mL : Nat) (rt : Option FieldType) (n : Nat) : Prop := Cond.code y bytes mL rt ∈ TB ∧ Cond.initialized y.cls ∈ TB ∧ Cond.static y ∈ TB ∧ (y.cls ≠ "java/lang/invoke/MethodHandle" ∧ y.cls ≠ "java/lang/invoke/VarHandle") ∧ (parseMethodDescriptor y.desc).map (fun d => d.parameters.length) = some n
theorem mZ_nar {x : Int32} (h : mZ x = true) : x &&& 1 = x := by
  unfold mZ at h
  rw [Bool.or_eq_true, decide_eq_true_eq, decide_eq_true_eq] at h
  rcases h with rfl | rfl <;> decide
theorem mZ_fit {x : Int32} (h : mZ x = true) : fits .boolean (.int x) = true := by
  unfold mZ at h
  rw [Bool.or_eq_true, decide_eq_true_eq, decide_eq_true_eq] at h
  rcases h with rfl | rfl <;> decide
section zhp
variable {C : mCtx} {cc : ByteArray} {own : String} {nL fr lo : Nat} {u : MU} {pc : Nat} {L : List (Option Value)} {st : List Value}
theorem z_getO (hC : mOK cc own nL fr lo C) {idx ci k q : Nat} {fl : List (Option Nat)} {o : Option Nat} (hf : mFld own idx ci k) (hs : mSh[q]? = some (.inr (.inr (ci, fl)))) (hfl : fl[k]? = some o) (hd : decode cc pc = .ok (.getfield idx, 3)) (kk : wat C u (pc + 3) L (mV (cS C) (u q k) o :: st)) : wat C u pc L (.ref (cS C q) :: st) := by
  obtain ⟨p, l, e, R, s, m, args, below, meth, c, Q, dC, dI, dA, as⟩ := C
  obtain ⟨hx, hb, hml, hown, hts, hK, hD, hfr, hlo⟩ := hC
  obtain ⟨Cn, T, N, hc, hk, hin, hl⟩ := hf
  intro H locs ls hP hS hL
  rcases hl with hl | ⟨host, hl⟩
  · exact va_get hx hb hts hin hown hK hP q (mW_get hs) hc k hk (hts _ hl) (fun _ h => h) (mF_get hfl) hd (kk H locs ls hP hS hL)
  · exact va_getN hx hb hts hin hown hK hP q (mW_get hs) hc k hk (hts _ hl) (fun _ h => h) (mF_get hfl) hd (kk H locs ls hP hS hL)
theorem z_getI (hC : mOK cc own nL fr lo C) {idx ci k q : Nat} {fl : List (Option Nat)} (hf : mFld own idx ci k) (hs : mSh[q]? = some (.inr (.inr (ci, fl)))) (hfl : fl[k]? = some none) (hd : decode cc pc = .ok (.getfield idx, 3)) (kk : wat C u (pc + 3) L (.int (u q k) :: st)) : wat C u pc L (.ref (cS C q) :: st) := z_getO hC hf hs hfl hd kk
theorem z_getR (hC : mOK cc own nL fr lo C) {idx ci k q : Nat} (q' : Nat) {fl : List (Option Nat)} (hf : mFld own idx ci k) (hs : mSh[q]? = some (.inr (.inr (ci, fl)))) (hfl : fl[k]? = some (some q')) (hd : decode cc pc = .ok (.getfield idx, 3)) (kk : wat C u (pc + 3) L (.ref (cS C q') :: st)) : wat C u pc L (.ref (cS C q) :: st) := z_getO hC hf hs hfl hd kk
theorem z_putO (hC : mOK cc own nL fr lo C) {idx ci k q : Nat} {fl : List (Option Nat)} {ty : FieldType} {v : Int32} (hf : mFldP own idx ci k ty) (hs : mSh[q]? = some (.inr (.inr (ci, fl)))) (hfl : fl[k]? = some none) (hn : narrow ty (.int v) = .int v) (hfit : fits ty (.int v) = true) (hd : decode cc pc = .ok (.putfield idx, 3)) (kk : wat C (mup u q k v) (pc + 3) L st) : wat C u pc L (.int v :: .ref (cS C q) :: st) := by
  obtain ⟨p, l, e, R, s, m, args, below, meth, c, Q, dC, dI, dA, as⟩ := C
  obtain ⟨hx, hb, hml, hown, hts, hK, hD, hfr, hlo⟩ := hC
  obtain ⟨Cn, T, N, ty0, hc, hk, hin, hl, hty, hnm, hfin, hpd⟩ := hf
  intro H locs ls hP hS hL
  have hlen : k < (fl.mapIdx (fun j o => mV as (u q j) o)).length := by
    rw [List.length_mapIdx]
    exact (List.getElem?_eq_some_iff.mp hfl).1
  have fin : ∀ (H1 : Heap) (locs1 : List Loc), va_P (dC, dI) vwCl ((mW dA as u).set q (as q, .inr (ci, (fl.mapIdx (fun j o => mV as (u q j) o)).set k (.int v)))) H1 → va_D (mA as) ((mW dA as u).set q (as q, .inr (ci, (fl.mapIdx (fun j o => mV as (u q j) o)).set k (.int v)))) → va_S (mA as) s.heap H1 locs1 → W p l e R s m args below meth c H1 locs1 0 0 Q (F0 m (pc + 3) ls st) := by
    intro H1 locs1 hP1 _ hS1
    rw [mF_set hfl] at hP1
    have e := mW_row (dA := dA) (as := as) (u := u) hs (upd (u q) k v)
    refine kk H1 locs1 ls ?_ hS1 hL
    show va_P (dC, dI) vwCl (mW dA as (mrow u q (upd (u q) k v))) H1
    rw [← e]
    exact hP1
  rcases hl with hl | ⟨host, hl⟩
  · exact va_put hx hb hts hin ty0 hty hnm hown hK hP (hD.D dA u) hS q (mW_get hs) hc k hk (hts _ hl) (fun _ h => h) hfin hpd hn hfit hlen hd fin
  · exact va_putN hx hb hts hin ty0 hty hnm hown hK hP (hD.D dA u) hS q (mW_get hs) hc k hk (hts _ hl) (fun _ h => h) hfin hpd hn hfit hlen hd fin
theorem z_putI (hC : mOK cc own nL fr lo C) {idx ci k q : Nat} {fl : List (Option Nat)} {v : Int32} (hf : mFldP own idx ci k .int) (hs : mSh[q]? = some (.inr (.inr (ci, fl)))) (hfl : fl[k]? = some none) (hd : decode cc pc = .ok (.putfield idx, 3)) (kk : wat C (mup u q k v) (pc + 3) L st) : wat C u pc L (.int v :: .ref (cS C q) :: st) := z_putO hC hf hs hfl rfl rfl hd kk
theorem z_putZ (hC : mOK cc own nL fr lo C) {idx ci k q : Nat} {fl : List (Option Nat)} {v : Int32} (hz : mZ v = true) (hf : mFldP own idx ci k .boolean) (hs : mSh[q]? = some (.inr (.inr (ci, fl)))) (hfl : fl[k]? = some none) (hd : decode cc pc = .ok (.putfield idx, 3)) (kk : wat C (mup u q k v) (pc + 3) L st) : wat C u pc L (.int v :: .ref (cS C q) :: st) := z_putO hC hf hs hfl (by show Value.int (v &&& 1) = _; rw [mZ_nar hz]) (mZ_fit hz) hd kk
theorem z_iald (hC : mOK cc own nL fr lo C) {q n : Nat} {i : Int32} (hs : mSh[q]? = some (.inl (0, n))) (hi : mIx i n = true) (hd : decode cc pc = .ok (.iaload, 1)) (kk : wat C u (pc + 1) L (.int (u q i.toNatClampNeg) :: st)) : wat C u pc L (.int i :: .ref (cS C q) :: st) := by
  obtain ⟨p, l, e, R, s, m, args, below, meth, c, Q, dC, dI, dA, as⟩ := C
  obtain ⟨hx, hb, hml, hown, hts, hK, hD, hfr, hlo⟩ := hC
  intro H locs ls hP hS hL
  exact va_iald hx hb hK hP q 0 (mW_get hs) rfl (mIx_in hi) hd (kk H locs ls hP hS hL)
theorem z_zald (hC : mOK cc own nL fr lo C) {q n : Nat} {i : Int32} (hs : mSh[q]? = some (.inl (1, n))) (hi : mIx i n = true) (hd : decode cc pc = .ok (.baload, 1)) (kk : wat C u (pc + 1) L (.int (u q i.toNatClampNeg) :: st)) : wat C u pc L (.int i :: .ref (cS C q) :: st) := by
  obtain ⟨p, l, e, R, s, m, args, below, meth, c, Q, dC, dI, dA, as⟩ := C
  obtain ⟨hx, hb, hml, hown, hts, hK, hD, hfr, hlo⟩ := hC
  intro H locs ls hP hS hL
  exact va_zald hx hb hK hP q 1 (mW_get hs) rfl (mIx_in hi) hd (kk H locs ls hP hS hL)
theorem z_aald (hC : mOK cc own nL fr lo C) {q t : Nat} {nm : String} {ids : List Nat} {i : Int32} (q' : Nat) (hs : mSh[q]? = some (.inr (.inl (t, ids)))) (ht : ∀ dA : Nat → ClassId, (mTys dA)[t]? = some (dA t, .object nm)) (hi : mIx i ids.length = true) (hq : ids[i.toNatClampNeg]? = some q') (hd : decode cc pc = .ok (.aaload, 1)) (kk : wat C u (pc + 1) L (.ref (cS C q') :: st)) : wat C u pc L (.int i :: .ref (cS C q) :: st) := by
  obtain ⟨p, l, e, R, s, m, args, below, meth, c, Q, dC, dI, dA, as⟩ := C
  obtain ⟨hx, hb, hml, hown, hts, hK, hD, hfr, hlo⟩ := hC
  intro H locs ls hP hS hL
  refine va_aldq hx hb hK hP q t (mW_get hs) (ht dA) (mIx_in hi) hd ?_
  show W p l e R s m args below meth c H locs 0 0 Q (F0 m (pc + 1) ls (va_rf ((ids[i.toNatClampNeg]?).map as) :: st))
  rw [hq]
  exact kk H locs ls hP hS hL
theorem z_iast (hC : mOK cc own nL fr lo C) {q n : Nat} {i x : Int32} (hs : mSh[q]? = some (.inl (0, n))) (hi : mIx i n = true) (hd : decode cc pc = .ok (.iastore, 1)) (kk : wat C (mup u q i.toNatClampNeg x) (pc + 1) L st) : wat C u pc L (.int x :: .int i :: .ref (cS C q) :: st) := by
  obtain ⟨p, l, e, R, s, m, args, below, meth, c, Q, dC, dI, dA, as⟩ := C
  obtain ⟨hx, hb, hml, hown, hts, hK, hD, hfr, hlo⟩ := hC
  intro H locs ls hP hS hL
  refine va_iast hx hb hK hP (hD.D dA u) hS q 0 (mW_get hs) rfl (mIx_in hi) hd (fun H1 locs1 hP1 _ hS1 => kk H1 locs1 ls ?_ hS1 hL)
  show va_P (dC, dI) vwCl (mW dA as (mrow u q (upd (u q) i.toNatClampNeg x))) H1
  rw [← mW_row (dA := dA) (as := as) (u := u) hs (upd (u q) i.toNatClampNeg x)]
  exact hP1
theorem z_zast (hC : mOK cc own nL fr lo C) {q n : Nat} {i x : Int32} (hz : mZ x = true) (hs : mSh[q]? = some (.inl (1, n))) (hi : mIx i n = true) (hd : decode cc pc = .ok (.bastore, 1)) (kk : wat C (mup u q i.toNatClampNeg x) (pc + 1) L st) : wat C u pc L (.int x :: .int i :: .ref (cS C q) :: st) := by
  obtain ⟨p, l, e, R, s, m, args, below, meth, c, Q, dC, dI, dA, as⟩ := C
  obtain ⟨hx, hb, hml, hown, hts, hK, hD, hfr, hlo⟩ := hC
  intro H locs ls hP hS hL
  refine va_zast hx hb hK hP (hD.D dA u) hS q 1 (mW_get hs) rfl (mIx_in hi) hd (fun H1 locs1 hP1 _ hS1 => kk H1 locs1 ls ?_ hS1 hL)
  show va_P (dC, dI) vwCl (mW dA as (mrow u q (upd (u q) i.toNatClampNeg x))) H1
  rw [← mW_row (dA := dA) (as := as) (u := u) hs (upd (u q) i.toNatClampNeg x)]
  have e : vp_nar .boolean x = x := mZ_nar hz
  rw [e] at hP1
  exact hP1
theorem z_copy (hC : mOK cc own nL fr lo C) {idx q q' n0 n1 : Nat} {sp dp n : Int32} (hw : Cond.methodLink own idx arraycopyName ∈ TB ∧ Cond.native arraycopyName ∈ TB ∧ Cond.static arraycopyName ∈ TB ∧ Cond.initialized "java/lang/System" ∈ TB) (hs : mSh[q]? = some (.inl (0, n0))) (hs' : mSh[q']? = some (.inl (0, n1))) (h1 : ¬ sp < 0) (h2 : ¬ dp < 0) (h3 : ¬ n < 0) (h4 : sp.toNatClampNeg + n.toNatClampNeg ≤ n0) (h5 : dp.toNatClampNeg + n.toNatClampNeg ≤ n1) (hfr : 1 ≤ fr) (hlo : (st.map fun v => v.category).sum + (nativeFrameWords "java/lang/System" "arraycopy" 5 + 11) ≤ lo) (hd : decode cc pc = .ok (.invokestatic idx, 3)) (kk : wat C (mrow u q' (va_cpy (u q) (u q') sp.toNatClampNeg dp.toNatClampNeg n.toNatClampNeg)) (pc + 3) L st) : wat C u pc L (.int n :: .int dp :: .ref (cS C q') :: .int sp :: .ref (cS C q) :: st) := by
  obtain ⟨p, l, e, R, s, m, args, below, meth, c, Q, dC, dI, dA, as⟩ := C
  obtain ⟨hx, hb, hml, hown, hts, hK, hD, hfr', hlo'⟩ := hC
  intro H locs ls hP hS hL
  refine va_copyi hx hb hL.1.symm hown (hts _ hw.1) (hts _ hw.2.1) (hts _ hw.2.2.1) (hts _ hw.2.2.2) hK hP (hD.D dA u) hS q q' 0 0 (mW_get hs) (mW_get hs') rfl rfl rfl h1 h2 h3 h4 h5 (fun _ _ => rfl) (Nat.le_trans hfr hfr') (Nat.le_trans hlo hlo') hd (fun H1 locs1 hP1 _ hS1 => kk H1 locs1 ls ?_ hS1 hL)
  rw [← mW_row (dA := dA) (as := as) (u := u) hs' (va_cpy (u q) (u q') sp.toNatClampNeg dp.toNatClampNeg n.toNatClampNeg)]
  exact hP1
theorem z_iret (hC : mOK cc own nL fr lo C) {r : Int32} (hE : mEndI C .int r u) (hd : decode cc pc = .ok (.ireturn, 1)) : wat C u pc L [.int r] := by
  obtain ⟨p, l, e, R, s, m, args, below, meth, c, Q, dC, dI, dA, as⟩ := C
  obtain ⟨hx, hb, hml, hown, hts, hK, hD, hfr, hlo⟩ := hC
  obtain ⟨rfl, hr, hlk⟩ := hE
  intro H locs ls hP hS hL
  exact W.iret hx hb hr (fun t ht hW => ⟨⟨r, (), rfl, rfl, by rw [ht]; exact hP, va_K.moved hW.alike hK⟩, hS.F ht⟩) hS.2.2 hd
theorem z_zret (hC : mOK cc own nL fr lo C) {r : Int32} (hE : mEndI C .boolean r u) (hz : mZ r = true) (hd : decode cc pc = .ok (.ireturn, 1)) : wat C u pc L [.int r] := by
  obtain ⟨p, l, e, R, s, m, args, below, meth, c, Q, dC, dI, dA, as⟩ := C
  obtain ⟨hx, hb, hml, hown, hts, hK, hD, hfr, hlo⟩ := hC
  obtain ⟨rfl, hr, hlk⟩ := hE
  intro H locs ls hP hS hL
  exact W.zret hx hb hr (by show Value.int (r &&& 1) = _; rw [mZ_nar hz]) (fun t ht hW => ⟨⟨r, (), rfl, rfl, by rw [ht]; exact hP, va_K.moved hW.alike hK⟩, hS.F ht⟩) hS.2.2 hd
theorem z_vret (hC : mOK cc own nL fr lo C) (hE : mEndV C u) (hd : decode cc pc = .ok (.return_, 1)) : wat C u pc L [] := by
  obtain ⟨p, l, e, R, s, m, args, below, meth, c, Q, dC, dI, dA, as⟩ := C
  obtain ⟨hx, hb, hml, hown, hts, hK, hD, hfr, hlo⟩ := hC
  obtain ⟨rfl, hr, hlk⟩ := hE
  intro H locs ls hP hS hL
  exact W.vret hx hb hr (fun t ht hW => ⟨⟨(), rfl, trivial, by rw [ht]; exact hP, va_K.moved hW.alike hK⟩, hS.F ht⟩) hS.2.2 hd
theorem mWd_blind {dC : Nat → ClassId} {dI : Nat → Nat → Nat} {dA : Nat → ClassId} {as : Nat → Nat} {av : List Value} : FrameBlind (va_Pc av (mWd dC dI dA as u)) := fun a U g mk q => ⟨q.1, q.2.1, va_K.moved (u := U) (U := U.calling g mk a) (Vm.Alike.refl U.vm) q.2.2⟩
theorem tb_warm2 {args : Array Value} {s : State} {w0 : Cond} (h : ∀ w ∈ TB, w.before args s = true) (h0 : w0 ∈ TB) : ∀ w ∈ w0 :: TB, ∀ (a' : Array Value) (U : State), s.WarmedH U.vm → w.before a' U = true := by
  intro w hw
  rcases List.mem_cons.mp hw with rfl | hw
  · exact tb_warm h _ h0
  · exact tb_warm h _ hw
theorem z_callI (hC : mOK cc own nL fr lo C) {y : MethodName} {bytes : ByteArray} {mL fr' lo' n idx q ci : Nat} {rt : FieldType} {fl : List (Option Nat)} {As : List Value} {r : Int32} {u' : MU} {stk : List Value} (hc : mCal y bytes mL (some rt) n) (hl : Cond.methodLink own idx y ∈ TB) (hs : mSh[q]? = some (.inr (.inr (ci, fl)))) (T : u_T) (N : Nat) (hci : vwCl[ci]? = some (y.cls, T, N)) (hM : mMI (cL C) (cC C) (cI C) (cA C) (cS C) y bytes mL rt fr' lo' (.ref (cS C q) :: As) u r u') (hn : As.length = n) (hfr : fr' + 1 ≤ fr) (hlo : 8 + (mL + 11) + lo' ≤ lo) (hst : (st.map fun v => v.category).sum ≤ 8) (hstk : stk = As.reverse ++ .ref (cS C q) :: st) (hd : decode cc pc = .ok (.invokevirtual idx, 3)) (kk : wat C u' (pc + 3) L (.int r :: st)) : wat C u pc L stk := by
  subst hstk
  obtain ⟨p, l, e, R, s, m, args, below, meth, c, Q, dC, dI, dA, as⟩ := C
  obtain ⟨hx, hb, hml, hown, hts, hK, hD, hfr', hlo'⟩ := hC
  obtain ⟨c1, c2, ⟨c3, c4⟩, c5, c6⟩ := hc
  intro H locs ls hP hS hL
  refine va_calli (va_runV (As := As) (rest := st) (b := as q) (C := y.cls) (bytes := bytes) (maxL := mL) (ret := some rt) ⟨hx, hb, rfl, hown, hts⟩ hM ⟨⟨rfl, rfl, Nat.le_trans hfr hfr', Nat.le_trans hlo hlo', tb_warm2 hts c1, List.mem_cons_self, hts _ c1, hts _ c2, c5, fun sig h => by rw [h] at c6; exact (Option.some.inj c6).symm, hts _ hl⟩, hts _ c3, hts _ c4⟩ ⟨mWd_blind, va_recv hK hP hci (mW_get hs), fun U hU hW => ⟨rfl, by rw [hU]; exact hP, va_K.moved hW.alike hK⟩⟩ rfl hn hL.1 rfl (lv_room hst) hd ⟨Nat.zero_le _, Nat.zero_le _⟩) hS (fun q _ h => h) (fun q h => h) (fun x v t H1 locs1 ht hvm hw hB hz1 hk1 hS1 => ?_)
  subst hw
  refine kk H1 locs1 ls ?_ hS1 hL
  rw [← ht]
  exact hB.1
theorem z_callV (hC : mOK cc own nL fr lo C) {y : MethodName} {bytes : ByteArray} {mL fr' lo' n idx q ci : Nat} {fl : List (Option Nat)} {As : List Value} {u' : MU} {stk : List Value} (hc : mCal y bytes mL none n) (hl : Cond.methodLink own idx y ∈ TB) (hs : mSh[q]? = some (.inr (.inr (ci, fl)))) (T : u_T) (N : Nat) (hci : vwCl[ci]? = some (y.cls, T, N)) (hM : mMV (cL C) (cC C) (cI C) (cA C) (cS C) y bytes mL fr' lo' (.ref (cS C q) :: As) u u') (hn : As.length = n) (hfr : fr' + 1 ≤ fr) (hlo : 8 + (mL + 11) + lo' ≤ lo) (hst : (st.map fun v => v.category).sum ≤ 8) (hstk : stk = As.reverse ++ .ref (cS C q) :: st) (hd : decode cc pc = .ok (.invokevirtual idx, 3)) (kk : wat C u' (pc + 3) L st) : wat C u pc L stk := by
  subst hstk
  obtain ⟨p, l, e, R, s, m, args, below, meth, c, Q, dC, dI, dA, as⟩ := C
  obtain ⟨hx, hb, hml, hown, hts, hK, hD, hfr', hlo'⟩ := hC
  obtain ⟨c1, c2, ⟨c3, c4⟩, c5, c6⟩ := hc
  intro H locs ls hP hS hL
  refine va_callv (va_runV (As := As) (rest := st) (b := as q) (C := y.cls) (bytes := bytes) (maxL := mL) (ret := none) ⟨hx, hb, rfl, hown, hts⟩ hM ⟨⟨rfl, rfl, Nat.le_trans hfr hfr', Nat.le_trans hlo hlo', tb_warm2 hts c1, List.mem_cons_self, hts _ c1, hts _ c2, c5, fun sig h => by rw [h] at c6; exact (Option.some.inj c6).symm, hts _ hl⟩, hts _ c3, hts _ c4⟩ ⟨mWd_blind, va_recv hK hP hci (mW_get hs), fun U hU hW => ⟨rfl, by rw [hU]; exact hP, va_K.moved hW.alike hK⟩⟩ rfl hn hL.1 rfl (lv_room hst) hd ⟨Nat.zero_le _, Nat.zero_le _⟩) hS (fun q _ h => h) (fun q h => h) (fun v t H1 locs1 ht hvm hw hB hz1 hk1 hS1 => ?_)
  refine kk H1 locs1 ls ?_ hS1 hL
  rw [← ht]
  exact hB.1
theorem z_callSI (hC : mOK cc own nL fr lo C) {y : MethodName} {bytes : ByteArray} {mL fr' lo' n idx : Nat} {rt : FieldType} {As : List Value} {r : Int32} {u' : MU} {stk : List Value} (hc : mCalS y bytes mL (some rt) n) (hl : Cond.methodLink own idx y ∈ TB) (hM : mMI (cL C) (cC C) (cI C) (cA C) (cS C) y bytes mL rt fr' lo' As u r u') (hn : As.length = n) (hfr : fr' + 1 ≤ fr) (hlo : 8 + (mL + 11) + lo' ≤ lo) (hst : (st.map fun v => v.category).sum ≤ 8) (hstk : stk = As.reverse ++ st) (hd : decode cc pc = .ok (.invokestatic idx, 3)) (kk : wat C u' (pc + 3) L (.int r :: st)) : wat C u pc L stk := by
  subst hstk
  obtain ⟨p, l, e, R, s, m, args, below, meth, c, Q, dC, dI, dA, as⟩ := C
  obtain ⟨hx, hb, hml, hown, hts, hK, hD, hfr', hlo'⟩ := hC
  obtain ⟨c1, c2, c3, c5, c6⟩ := hc
  intro H locs ls hP hS hL
  refine va_calli (va_runS (As := As) (rest := st) (bytes := bytes) (maxL := mL) (ret := some rt) ⟨hx, hb, rfl, hown, hts⟩ hM ⟨⟨rfl, rfl, Nat.le_trans hfr hfr', Nat.le_trans hlo hlo', tb_warm2 hts c1, List.mem_cons_self, hts _ c1, hts _ c2, c5, fun sig h => by rw [h] at c6; exact (Option.some.inj c6).symm, hts _ hl⟩, hts _ c3⟩ ⟨mWd_blind, fun U hU hW => ⟨rfl, by rw [hU]; exact hP, va_K.moved hW.alike hK⟩⟩ rfl hn hL.1 rfl (lv_room hst) hd ⟨Nat.zero_le _, Nat.zero_le _⟩) hS (fun q _ h => h) (fun q h => h) (fun x v t H1 locs1 ht hvm hw hB hz1 hk1 hS1 => ?_)
  subst hw
  refine kk H1 locs1 ls ?_ hS1 hL
  rw [← ht]
  exact hB.1
theorem z_callSV (hC : mOK cc own nL fr lo C) {y : MethodName} {bytes : ByteArray} {mL fr' lo' n idx : Nat} {As : List Value} {u' : MU} {stk : List Value} (hc : mCalS y bytes mL none n) (hl : Cond.methodLink own idx y ∈ TB) (hM : mMV (cL C) (cC C) (cI C) (cA C) (cS C) y bytes mL fr' lo' As u u') (hn : As.length = n) (hfr : fr' + 1 ≤ fr) (hlo : 8 + (mL + 11) + lo' ≤ lo) (hst : (st.map fun v => v.category).sum ≤ 8) (hstk : stk = As.reverse ++ st) (hd : decode cc pc = .ok (.invokestatic idx, 3)) (kk : wat C u' (pc + 3) L st) : wat C u pc L stk := by
  subst hstk
  obtain ⟨p, l, e, R, s, m, args, below, meth, c, Q, dC, dI, dA, as⟩ := C
  obtain ⟨hx, hb, hml, hown, hts, hK, hD, hfr', hlo'⟩ := hC
  obtain ⟨c1, c2, c3, c5, c6⟩ := hc
  intro H locs ls hP hS hL
  refine va_callv (va_runS (As := As) (rest := st) (bytes := bytes) (maxL := mL) (ret := none) ⟨hx, hb, rfl, hown, hts⟩ hM ⟨⟨rfl, rfl, Nat.le_trans hfr hfr', Nat.le_trans hlo hlo', tb_warm2 hts c1, List.mem_cons_self, hts _ c1, hts _ c2, c5, fun sig h => by rw [h] at c6; exact (Option.some.inj c6).symm, hts _ hl⟩, hts _ c3⟩ ⟨mWd_blind, fun U hU hW => ⟨rfl, by rw [hU]; exact hP, va_K.moved hW.alike hK⟩⟩ rfl hn hL.1 rfl (lv_room hst) hd ⟨Nat.zero_le _, Nat.zero_le _⟩) hS (fun q _ h => h) (fun q h => h) (fun v t H1 locs1 ht hvm hw hB hz1 hk1 hS1 => ?_)
  refine kk H1 locs1 ls ?_ hS1 hL
  rw [← ht]
  exact hB.1
theorem z_callNI (hC : mOK cc own nL fr lo C) {y : MethodName} {host : String} {bytes : ByteArray} {mL fr' lo' n idx : Nat} {rt : FieldType} {As : List Value} {r : Int32} {u' : MU} {stk : List Value} (hc : mCalS y bytes mL (some rt) n) (hl : Cond.methodLinkNest own idx y host ∈ TB) (hM : mMI (cL C) (cC C) (cI C) (cA C) (cS C) y bytes mL rt fr' lo' As u r u') (hn : As.length = n) (hfr : fr' + 1 ≤ fr) (hlo : 8 + (mL + 11) + lo' ≤ lo) (hst : (st.map fun v => v.category).sum ≤ 8) (hstk : stk = As.reverse ++ st) (hd : decode cc pc = .ok (.invokestatic idx, 3)) (kk : wat C u' (pc + 3) L (.int r :: st)) : wat C u pc L stk := by
  subst hstk
  obtain ⟨p, l, e, R, s, m, args, below, meth, c, Q, dC, dI, dA, as⟩ := C
  obtain ⟨hx, hb, hml, hown, hts, hK, hD, hfr', hlo'⟩ := hC
  obtain ⟨c1, c2, c3, c5, c6⟩ := hc
  intro H locs ls hP hS hL
  refine va_calli (va_runSN (As := As) (rest := st) (bytes := bytes) (maxL := mL) (ret := some rt) ⟨hx, hb, rfl, hown, hts⟩ hM ⟨⟨⟨rfl, rfl, Nat.le_trans hfr hfr', Nat.le_trans hlo hlo', tb_warm2 hts c1, List.mem_cons_self⟩, hts _ c1, hts _ c2, c5, fun sig h => by rw [h] at c6; exact (Option.some.inj c6).symm, hts _ hl⟩, hts _ c3, trivial⟩ ⟨mWd_blind, fun U hU hW => ⟨rfl, by rw [hU]; exact hP, va_K.moved hW.alike hK⟩⟩ rfl hn hL.1 rfl (lv_room hst) hd ⟨Nat.zero_le _, Nat.zero_le _⟩) hS (fun q _ h => h) (fun q h => h) (fun x v t H1 locs1 ht hvm hw hB hz1 hk1 hS1 => ?_)
  subst hw
  refine kk H1 locs1 ls ?_ hS1 hL
  rw [← ht]
  exact hB.1
end zhp
theorem mMI.of {l : Launch} {dC : Nat → ClassId} {dI : Nat → Nat → Nat} {dA : Nat → ClassId} {as : Nat → Nat} {y : MethodName} {cc : ByteArray} {mL : Nat} {rt : FieldType} {fr lo : Nat} {av : List Value} {u : MU} {r : Int32} {u' : MU} (own : String) (L0 : List (Option Value)) (hD : mDis as) (hy : plainName y.cls = true) (ho : y.cls = own) (hlen : (lg_sl av).length ≤ mL) (hL0 : mPr L0 = lv_args 0 av) (body : ∀ C : mCtx, cL C = l → cC C = dC → cI C = dI → cA C = dA → cS C = as → mOK cc own mL fr lo C → mEndI C rt r u' → wat C u 0 L0 []) : mMI l dC dI dA as y cc mL rt fr lo av u r u' := by
  refine Met.ofW (cc := cc) (maxL := mL) (ret := some rt) hy rfl ?_
  intro p e s m args below meth c s₁ B hml hv
  obtain ⟨rfl, hP, hK⟩ := hv
  have hts := atoms_spec (ws := Cond.code y cc mL (some rt) :: TB) B.pre
  have hown : s.vm.findClass own = some m.cls := ho ▸ findClass_of_methodNamed B.named
  have hl := lv_entry av (n := mL) hlen
  rw [lg_entry_eq]
  generalize (lg_sl av ++ List.replicate (mL - (lg_sl av).length) Slot.unset).toArray = ls at hl ⊢
  have h := body (p, l, e, { frames := fr, cells := 0, slots := 0, locals := lo }, s, m, av.toArray, below, meth, c, MQ below (va_Qi (fun x (_ : Unit) => x = r) (fun _ t => mWd dC dI dA as u' t) (mA as)) av.toArray s 0 0 (mA as), dC, dI, dA, as) rfl rfl rfl rfl rfl ⟨B.exec, B.bytes, hml, hown, fun w hw => hts w (List.mem_cons_of_mem _ hw), hK, hD, Nat.le_refl _, Nat.le_refl _⟩ ⟨rfl, B.returns, B.notSynchronized⟩
  refine h s.heap [] ls hP va_S.rf ⟨hl.1.trans hml.symm, hl.2.1, fun i v hi => hl.2.2 (i, v) ?_⟩
  rw [← hL0]
  exact mPr_mem.mpr hi
theorem mMV.of {l : Launch} {dC : Nat → ClassId} {dI : Nat → Nat → Nat} {dA : Nat → ClassId} {as : Nat → Nat} {y : MethodName} {cc : ByteArray} {mL : Nat} {fr lo : Nat} {av : List Value} {u : MU} {u' : MU} (own : String) (L0 : List (Option Value)) (hD : mDis as) (hy : plainName y.cls = true) (ho : y.cls = own) (hlen : (lg_sl av).length ≤ mL) (hL0 : mPr L0 = lv_args 0 av) (body : ∀ C : mCtx, cL C = l → cC C = dC → cI C = dI → cA C = dA → cS C = as → mOK cc own mL fr lo C → mEndV C u' → wat C u 0 L0 []) : mMV l dC dI dA as y cc mL fr lo av u u' := by
  refine Met.ofW (cc := cc) (maxL := mL) (ret := none) hy rfl ?_
  intro p e s m args below meth c s₁ B hml hv
  obtain ⟨rfl, hP, hK⟩ := hv
  have hts := atoms_spec (ws := Cond.code y cc mL none :: TB) B.pre
  have hown : s.vm.findClass own = some m.cls := ho ▸ findClass_of_methodNamed B.named
  have hl := lv_entry av (n := mL) hlen
  rw [lg_entry_eq]
  generalize (lg_sl av ++ List.replicate (mL - (lg_sl av).length) Slot.unset).toArray = ls at hl ⊢
  have h := body (p, l, e, { frames := fr, cells := 0, slots := 0, locals := lo }, s, m, av.toArray, below, meth, c, MQ below (va_Qv (fun (_ : Unit) => True) (fun _ t => mWd dC dI dA as u' t) (mA as)) av.toArray s 0 0 (mA as), dC, dI, dA, as) rfl rfl rfl rfl rfl ⟨B.exec, B.bytes, hml, hown, fun w hw => hts w (List.mem_cons_of_mem _ hw), hK, hD, Nat.le_refl _, Nat.le_refl _⟩ ⟨rfl, B.returns, B.notSynchronized⟩
  refine h s.heap [] ls hP va_S.rf ⟨hl.1.trans hml.symm, hl.2.1, fun i v hi => hl.2.2 (i, v) ?_⟩
  rw [← hL0]
  exact mPr_mem.mpr hi
end
section
set_option maxRecDepth 20000 in
theorem inX0 : ∀ w ∈ u_ws RX0 TX0 6, w ∈ TB := tb_all _ [99, 101, 103, 105, 107, 109] (by decide +kernel) (by decide +kernel)
set_option maxRecDepth 20000 in
theorem inX1 : ∀ w ∈ u_ws RX1 TX1 3, w ∈ TB := tb_all _ [275, 277, 279] (by decide +kernel) (by decide +kernel)
set_option maxRecDepth 20000 in
theorem inX2 : ∀ w ∈ u_ws RX2 TX2 6, w ∈ TB := tb_all _ [163, 165, 167, 169, 171, 173] (by decide +kernel) (by decide +kernel)
set_option maxRecDepth 20000 in
theorem inX3 : ∀ w ∈ u_ws RX3 TX3 5, w ∈ TB := tb_all _ [191, 193, 195, 197, 199] (by decide +kernel) (by decide +kernel)
set_option maxRecDepth 20000 in
theorem inX4 : ∀ w ∈ u_ws RX4 TX4 3, w ∈ TB := tb_all _ [135, 137, 139] (by decide +kernel) (by decide +kernel)
set_option maxRecDepth 20000 in
theorem inX5 : ∀ w ∈ u_ws RX5 TX5 12, w ∈ TB := tb_all _ [237, 239, 241, 243, 245, 247, 249, 251, 253, 255, 257, 259] (by decide +kernel) (by decide +kernel)
set_option maxRecDepth 20000 in
theorem inX6 : ∀ w ∈ u_ws RX6 TX6 8, w ∈ TB := tb_all _ [290, 292, 294, 296, 298, 300, 302, 304] (by decide +kernel) (by decide +kernel)
set_option maxRecDepth 20000 in
theorem inX7 : ∀ w ∈ u_ws RX7 TX7 39, w ∈ TB := tb_all _ [642, 644, 646, 648, 650, 652, 654, 656, 658, 660, 662, 664, 666, 668, 670, 672, 674, 676, 678, 680, 682, 684, 686, 688, 690, 692, 694, 696, 698, 700, 702, 704, 706, 708, 710, 712, 714, 716, 718] (by decide +kernel) (by decide +kernel)
set_option maxRecDepth 20000 in
theorem kL_X0_11 : Cond.fieldLink RX0 11 (TX0 0).1 (TX0 0).2.1 (TX0 0).2.2.1 ∈ TB ∨ ∃ host : String, Cond.fieldLinkNest RX0 11 (TX0 0).1 (TX0 0).2.1 (TX0 0).2.2.1 host ∈ TB := Or.inl (tb_mem 92 (by decide +kernel) (by decide +kernel))
set_option maxRecDepth 20000 in
theorem kF_X0_11 : mFld RX0 11 0 0 := ⟨RX0, TX0, 6, rfl, by decide, inX0, kL_X0_11⟩
set_option maxRecDepth 20000 in
theorem kL_X0_15 : Cond.fieldLink RX0 15 (TX0 1).1 (TX0 1).2.1 (TX0 1).2.2.1 ∈ TB ∨ ∃ host : String, Cond.fieldLinkNest RX0 15 (TX0 1).1 (TX0 1).2.1 (TX0 1).2.2.1 host ∈ TB := Or.inl (tb_mem 93 (by decide +kernel) (by decide +kernel))
set_option maxRecDepth 20000 in
theorem kF_X0_15 : mFld RX0 15 0 1 := ⟨RX0, TX0, 6, rfl, by decide, inX0, kL_X0_15⟩
set_option maxRecDepth 20000 in
theorem kL_X0_18 : Cond.fieldLink RX0 18 (TX0 2).1 (TX0 2).2.1 (TX0 2).2.2.1 ∈ TB ∨ ∃ host : String, Cond.fieldLinkNest RX0 18 (TX0 2).1 (TX0 2).2.1 (TX0 2).2.2.1 host ∈ TB := Or.inl (tb_mem 94 (by decide +kernel) (by decide +kernel))
set_option maxRecDepth 20000 in
theorem kF_X0_18 : mFld RX0 18 0 2 := ⟨RX0, TX0, 6, rfl, by decide, inX0, kL_X0_18⟩
set_option maxRecDepth 20000 in
theorem kL_X0_21 : Cond.fieldLink RX0 21 (TX0 3).1 (TX0 3).2.1 (TX0 3).2.2.1 ∈ TB ∨ ∃ host : String, Cond.fieldLinkNest RX0 21 (TX0 3).1 (TX0 3).2.1 (TX0 3).2.2.1 host ∈ TB := Or.inl (tb_mem 95 (by decide +kernel) (by decide +kernel))
set_option maxRecDepth 20000 in
theorem kF_X0_21 : mFld RX0 21 0 3 := ⟨RX0, TX0, 6, rfl, by decide, inX0, kL_X0_21⟩
set_option maxRecDepth 20000 in
theorem kL_X0_24 : Cond.fieldLink RX0 24 (TX0 4).1 (TX0 4).2.1 (TX0 4).2.2.1 ∈ TB ∨ ∃ host : String, Cond.fieldLinkNest RX0 24 (TX0 4).1 (TX0 4).2.1 (TX0 4).2.2.1 host ∈ TB := Or.inl (tb_mem 96 (by decide +kernel) (by decide +kernel))
set_option maxRecDepth 20000 in
theorem kF_X0_24 : mFld RX0 24 0 4 := ⟨RX0, TX0, 6, rfl, by decide, inX0, kL_X0_24⟩
set_option maxRecDepth 20000 in
theorem kL_X6_83 : Cond.fieldLink RX6 83 (TX0 4).1 (TX0 4).2.1 (TX0 4).2.2.1 ∈ TB ∨ ∃ host : String, Cond.fieldLinkNest RX6 83 (TX0 4).1 (TX0 4).2.1 (TX0 4).2.2.1 host ∈ TB := Or.inr ⟨"SwapCalls", tb_mem 97 (by decide +kernel) (by decide +kernel)⟩
set_option maxRecDepth 20000 in
theorem kF_X6_83 : mFld RX6 83 0 4 := ⟨RX0, TX0, 6, rfl, by decide, inX0, kL_X6_83⟩
set_option maxRecDepth 20000 in
theorem kL_X0_28 : Cond.fieldLink RX0 28 (TX0 5).1 (TX0 5).2.1 (TX0 5).2.2.1 ∈ TB ∨ ∃ host : String, Cond.fieldLinkNest RX0 28 (TX0 5).1 (TX0 5).2.1 (TX0 5).2.2.1 host ∈ TB := Or.inl (tb_mem 98 (by decide +kernel) (by decide +kernel))
set_option maxRecDepth 20000 in
theorem kF_X0_28 : mFld RX0 28 0 5 := ⟨RX0, TX0, 6, rfl, by decide, inX0, kL_X0_28⟩
set_option maxRecDepth 20000 in
theorem kP_X0_28 : mFldP RX0 28 0 5 .boolean := ⟨RX0, TX0, 6, tyX0, rfl, by decide, inX0, kL_X0_28, tyX0_ok, nmX0, by decide, by decide +kernel⟩
set_option maxRecDepth 20000 in
theorem kL_X4_9 : Cond.fieldLink RX4 9 (TX4 0).1 (TX4 0).2.1 (TX4 0).2.2.1 ∈ TB ∨ ∃ host : String, Cond.fieldLinkNest RX4 9 (TX4 0).1 (TX4 0).2.1 (TX4 0).2.2.1 host ∈ TB := Or.inl (tb_mem 120 (by decide +kernel) (by decide +kernel))
set_option maxRecDepth 20000 in
theorem kF_X4_9 : mFld RX4 9 4 0 := ⟨RX4, TX4, 3, rfl, by decide, inX4, kL_X4_9⟩
set_option maxRecDepth 20000 in
theorem kL_X3_39 : Cond.fieldLink RX3 39 (TX4 0).1 (TX4 0).2.1 (TX4 0).2.2.1 ∈ TB ∨ ∃ host : String, Cond.fieldLinkNest RX3 39 (TX4 0).1 (TX4 0).2.1 (TX4 0).2.2.1 host ∈ TB := Or.inr ⟨"SwapCalls", tb_mem 121 (by decide +kernel) (by decide +kernel)⟩
set_option maxRecDepth 20000 in
theorem kF_X3_39 : mFld RX3 39 4 0 := ⟨RX4, TX4, 3, rfl, by decide, inX4, kL_X3_39⟩
set_option maxRecDepth 20000 in
theorem kL_X0_50 : Cond.fieldLink RX0 50 (TX4 0).1 (TX4 0).2.1 (TX4 0).2.2.1 ∈ TB ∨ ∃ host : String, Cond.fieldLinkNest RX0 50 (TX4 0).1 (TX4 0).2.1 (TX4 0).2.2.1 host ∈ TB := Or.inr ⟨"SwapCalls", tb_mem 122 (by decide +kernel) (by decide +kernel)⟩
set_option maxRecDepth 20000 in
theorem kF_X0_50 : mFld RX0 50 4 0 := ⟨RX4, TX4, 3, rfl, by decide, inX4, kL_X0_50⟩
set_option maxRecDepth 20000 in
theorem kL_X2_69 : Cond.fieldLink RX2 69 (TX4 0).1 (TX4 0).2.1 (TX4 0).2.2.1 ∈ TB ∨ ∃ host : String, Cond.fieldLinkNest RX2 69 (TX4 0).1 (TX4 0).2.1 (TX4 0).2.2.1 host ∈ TB := Or.inr ⟨"SwapCalls", tb_mem 123 (by decide +kernel) (by decide +kernel)⟩
set_option maxRecDepth 20000 in
theorem kF_X2_69 : mFld RX2 69 4 0 := ⟨RX4, TX4, 3, rfl, by decide, inX4, kL_X2_69⟩
set_option maxRecDepth 20000 in
theorem kL_X6_104 : Cond.fieldLink RX6 104 (TX4 0).1 (TX4 0).2.1 (TX4 0).2.2.1 ∈ TB ∨ ∃ host : String, Cond.fieldLinkNest RX6 104 (TX4 0).1 (TX4 0).2.1 (TX4 0).2.2.1 host ∈ TB := Or.inr ⟨"SwapCalls", tb_mem 124 (by decide +kernel) (by decide +kernel)⟩
set_option maxRecDepth 20000 in
theorem kF_X6_104 : mFld RX6 104 4 0 := ⟨RX4, TX4, 3, rfl, by decide, inX4, kL_X6_104⟩
set_option maxRecDepth 20000 in
theorem kL_X4_15 : Cond.fieldLink RX4 15 (TX4 1).1 (TX4 1).2.1 (TX4 1).2.2.1 ∈ TB ∨ ∃ host : String, Cond.fieldLinkNest RX4 15 (TX4 1).1 (TX4 1).2.1 (TX4 1).2.2.1 host ∈ TB := Or.inl (tb_mem 125 (by decide +kernel) (by decide +kernel))
set_option maxRecDepth 20000 in
theorem kF_X4_15 : mFld RX4 15 4 1 := ⟨RX4, TX4, 3, rfl, by decide, inX4, kL_X4_15⟩
set_option maxRecDepth 20000 in
theorem kL_X3_42 : Cond.fieldLink RX3 42 (TX4 1).1 (TX4 1).2.1 (TX4 1).2.2.1 ∈ TB ∨ ∃ host : String, Cond.fieldLinkNest RX3 42 (TX4 1).1 (TX4 1).2.1 (TX4 1).2.2.1 host ∈ TB := Or.inr ⟨"SwapCalls", tb_mem 126 (by decide +kernel) (by decide +kernel)⟩
set_option maxRecDepth 20000 in
theorem kF_X3_42 : mFld RX3 42 4 1 := ⟨RX4, TX4, 3, rfl, by decide, inX4, kL_X3_42⟩
set_option maxRecDepth 20000 in
theorem kL_X0_53 : Cond.fieldLink RX0 53 (TX4 1).1 (TX4 1).2.1 (TX4 1).2.2.1 ∈ TB ∨ ∃ host : String, Cond.fieldLinkNest RX0 53 (TX4 1).1 (TX4 1).2.1 (TX4 1).2.2.1 host ∈ TB := Or.inr ⟨"SwapCalls", tb_mem 127 (by decide +kernel) (by decide +kernel)⟩
set_option maxRecDepth 20000 in
theorem kF_X0_53 : mFld RX0 53 4 1 := ⟨RX4, TX4, 3, rfl, by decide, inX4, kL_X0_53⟩
set_option maxRecDepth 20000 in
theorem kL_X2_72 : Cond.fieldLink RX2 72 (TX4 1).1 (TX4 1).2.1 (TX4 1).2.2.1 ∈ TB ∨ ∃ host : String, Cond.fieldLinkNest RX2 72 (TX4 1).1 (TX4 1).2.1 (TX4 1).2.2.1 host ∈ TB := Or.inr ⟨"SwapCalls", tb_mem 128 (by decide +kernel) (by decide +kernel)⟩
set_option maxRecDepth 20000 in
theorem kF_X2_72 : mFld RX2 72 4 1 := ⟨RX4, TX4, 3, rfl, by decide, inX4, kL_X2_72⟩
set_option maxRecDepth 20000 in
theorem kL_X6_114 : Cond.fieldLink RX6 114 (TX4 1).1 (TX4 1).2.1 (TX4 1).2.2.1 ∈ TB ∨ ∃ host : String, Cond.fieldLinkNest RX6 114 (TX4 1).1 (TX4 1).2.1 (TX4 1).2.2.1 host ∈ TB := Or.inr ⟨"SwapCalls", tb_mem 129 (by decide +kernel) (by decide +kernel)⟩
set_option maxRecDepth 20000 in
theorem kF_X6_114 : mFld RX6 114 4 1 := ⟨RX4, TX4, 3, rfl, by decide, inX4, kL_X6_114⟩
set_option maxRecDepth 20000 in
theorem kL_X4_18 : Cond.fieldLink RX4 18 (TX4 2).1 (TX4 2).2.1 (TX4 2).2.2.1 ∈ TB ∨ ∃ host : String, Cond.fieldLinkNest RX4 18 (TX4 2).1 (TX4 2).2.1 (TX4 2).2.2.1 host ∈ TB := Or.inl (tb_mem 130 (by decide +kernel) (by decide +kernel))
set_option maxRecDepth 20000 in
theorem kF_X4_18 : mFld RX4 18 4 2 := ⟨RX4, TX4, 3, rfl, by decide, inX4, kL_X4_18⟩
set_option maxRecDepth 20000 in
theorem kP_X4_18 : mFldP RX4 18 4 2 .int := ⟨RX4, TX4, 3, tyX4, rfl, by decide, inX4, kL_X4_18, tyX4_ok, nmX4, by decide, by decide +kernel⟩
set_option maxRecDepth 20000 in
theorem kL_X2_39 : Cond.fieldLink RX2 39 (TX4 2).1 (TX4 2).2.1 (TX4 2).2.2.1 ∈ TB ∨ ∃ host : String, Cond.fieldLinkNest RX2 39 (TX4 2).1 (TX4 2).2.1 (TX4 2).2.2.1 host ∈ TB := Or.inr ⟨"SwapCalls", tb_mem 131 (by decide +kernel) (by decide +kernel)⟩
set_option maxRecDepth 20000 in
theorem kF_X2_39 : mFld RX2 39 4 2 := ⟨RX4, TX4, 3, rfl, by decide, inX4, kL_X2_39⟩
set_option maxRecDepth 20000 in
theorem kP_X2_39 : mFldP RX2 39 4 2 .int := ⟨RX4, TX4, 3, tyX4, rfl, by decide, inX4, kL_X2_39, tyX4_ok, nmX4, by decide, by decide +kernel⟩
set_option maxRecDepth 20000 in
theorem kL_X3_34 : Cond.fieldLink RX3 34 (TX4 2).1 (TX4 2).2.1 (TX4 2).2.2.1 ∈ TB ∨ ∃ host : String, Cond.fieldLinkNest RX3 34 (TX4 2).1 (TX4 2).2.1 (TX4 2).2.2.1 host ∈ TB := Or.inr ⟨"SwapCalls", tb_mem 132 (by decide +kernel) (by decide +kernel)⟩
set_option maxRecDepth 20000 in
theorem kF_X3_34 : mFld RX3 34 4 2 := ⟨RX4, TX4, 3, rfl, by decide, inX4, kL_X3_34⟩
set_option maxRecDepth 20000 in
theorem kP_X3_34 : mFldP RX3 34 4 2 .int := ⟨RX4, TX4, 3, tyX4, rfl, by decide, inX4, kL_X3_34, tyX4_ok, nmX4, by decide, by decide +kernel⟩
set_option maxRecDepth 20000 in
theorem kL_X0_44 : Cond.fieldLink RX0 44 (TX4 2).1 (TX4 2).2.1 (TX4 2).2.2.1 ∈ TB ∨ ∃ host : String, Cond.fieldLinkNest RX0 44 (TX4 2).1 (TX4 2).2.1 (TX4 2).2.2.1 host ∈ TB := Or.inr ⟨"SwapCalls", tb_mem 133 (by decide +kernel) (by decide +kernel)⟩
set_option maxRecDepth 20000 in
theorem kF_X0_44 : mFld RX0 44 4 2 := ⟨RX4, TX4, 3, rfl, by decide, inX4, kL_X0_44⟩
set_option maxRecDepth 20000 in
theorem kP_X0_44 : mFldP RX0 44 4 2 .int := ⟨RX4, TX4, 3, tyX4, rfl, by decide, inX4, kL_X0_44, tyX4_ok, nmX4, by decide, by decide +kernel⟩
set_option maxRecDepth 20000 in
theorem kL_X6_95 : Cond.fieldLink RX6 95 (TX4 2).1 (TX4 2).2.1 (TX4 2).2.2.1 ∈ TB ∨ ∃ host : String, Cond.fieldLinkNest RX6 95 (TX4 2).1 (TX4 2).2.1 (TX4 2).2.2.1 host ∈ TB := Or.inr ⟨"SwapCalls", tb_mem 134 (by decide +kernel) (by decide +kernel)⟩
set_option maxRecDepth 20000 in
theorem kF_X6_95 : mFld RX6 95 4 2 := ⟨RX4, TX4, 3, rfl, by decide, inX4, kL_X6_95⟩
set_option maxRecDepth 20000 in
theorem kP_X6_95 : mFldP RX6 95 4 2 .int := ⟨RX4, TX4, 3, tyX4, rfl, by decide, inX4, kL_X6_95, tyX4_ok, nmX4, by decide, by decide +kernel⟩
set_option maxRecDepth 20000 in
theorem kL_X2_12 : Cond.fieldLink RX2 12 (TX2 0).1 (TX2 0).2.1 (TX2 0).2.2.1 ∈ TB ∨ ∃ host : String, Cond.fieldLinkNest RX2 12 (TX2 0).1 (TX2 0).2.1 (TX2 0).2.2.1 host ∈ TB := Or.inl (tb_mem 152 (by decide +kernel) (by decide +kernel))
set_option maxRecDepth 20000 in
theorem kF_X2_12 : mFld RX2 12 2 0 := ⟨RX2, TX2, 6, rfl, by decide, inX2, kL_X2_12⟩
set_option maxRecDepth 20000 in
theorem kL_X2_18 : Cond.fieldLink RX2 18 (TX2 1).1 (TX2 1).2.1 (TX2 1).2.2.1 ∈ TB ∨ ∃ host : String, Cond.fieldLinkNest RX2 18 (TX2 1).1 (TX2 1).2.1 (TX2 1).2.2.1 host ∈ TB := Or.inl (tb_mem 153 (by decide +kernel) (by decide +kernel))
set_option maxRecDepth 20000 in
theorem kF_X2_18 : mFld RX2 18 2 1 := ⟨RX2, TX2, 6, rfl, by decide, inX2, kL_X2_18⟩
set_option maxRecDepth 20000 in
theorem kL_X6_121 : Cond.fieldLink RX6 121 (TX2 1).1 (TX2 1).2.1 (TX2 1).2.2.1 ∈ TB ∨ ∃ host : String, Cond.fieldLinkNest RX6 121 (TX2 1).1 (TX2 1).2.1 (TX2 1).2.2.1 host ∈ TB := Or.inr ⟨"SwapCalls", tb_mem 154 (by decide +kernel) (by decide +kernel)⟩
set_option maxRecDepth 20000 in
theorem kF_X6_121 : mFld RX6 121 2 1 := ⟨RX2, TX2, 6, rfl, by decide, inX2, kL_X6_121⟩
set_option maxRecDepth 20000 in
theorem kL_X2_22 : Cond.fieldLink RX2 22 (TX2 2).1 (TX2 2).2.1 (TX2 2).2.2.1 ∈ TB ∨ ∃ host : String, Cond.fieldLinkNest RX2 22 (TX2 2).1 (TX2 2).2.1 (TX2 2).2.2.1 host ∈ TB := Or.inl (tb_mem 155 (by decide +kernel) (by decide +kernel))
set_option maxRecDepth 20000 in
theorem kF_X2_22 : mFld RX2 22 2 2 := ⟨RX2, TX2, 6, rfl, by decide, inX2, kL_X2_22⟩
set_option maxRecDepth 20000 in
theorem kL_X6_124 : Cond.fieldLink RX6 124 (TX2 2).1 (TX2 2).2.1 (TX2 2).2.2.1 ∈ TB ∨ ∃ host : String, Cond.fieldLinkNest RX6 124 (TX2 2).1 (TX2 2).2.1 (TX2 2).2.2.1 host ∈ TB := Or.inr ⟨"SwapCalls", tb_mem 156 (by decide +kernel) (by decide +kernel)⟩
set_option maxRecDepth 20000 in
theorem kF_X6_124 : mFld RX6 124 2 2 := ⟨RX2, TX2, 6, rfl, by decide, inX2, kL_X6_124⟩
set_option maxRecDepth 20000 in
theorem kL_X2_25 : Cond.fieldLink RX2 25 (TX2 3).1 (TX2 3).2.1 (TX2 3).2.2.1 ∈ TB ∨ ∃ host : String, Cond.fieldLinkNest RX2 25 (TX2 3).1 (TX2 3).2.1 (TX2 3).2.2.1 host ∈ TB := Or.inl (tb_mem 157 (by decide +kernel) (by decide +kernel))
set_option maxRecDepth 20000 in
theorem kF_X2_25 : mFld RX2 25 2 3 := ⟨RX2, TX2, 6, rfl, by decide, inX2, kL_X2_25⟩
set_option maxRecDepth 20000 in
theorem kL_X6_209 : Cond.fieldLink RX6 209 (TX2 3).1 (TX2 3).2.1 (TX2 3).2.2.1 ∈ TB ∨ ∃ host : String, Cond.fieldLinkNest RX6 209 (TX2 3).1 (TX2 3).2.1 (TX2 3).2.2.1 host ∈ TB := Or.inr ⟨"SwapCalls", tb_mem 158 (by decide +kernel) (by decide +kernel)⟩
set_option maxRecDepth 20000 in
theorem kF_X6_209 : mFld RX6 209 2 3 := ⟨RX2, TX2, 6, rfl, by decide, inX2, kL_X6_209⟩
set_option maxRecDepth 20000 in
theorem kL_X2_28 : Cond.fieldLink RX2 28 (TX2 4).1 (TX2 4).2.1 (TX2 4).2.2.1 ∈ TB ∨ ∃ host : String, Cond.fieldLinkNest RX2 28 (TX2 4).1 (TX2 4).2.1 (TX2 4).2.2.1 host ∈ TB := Or.inl (tb_mem 159 (by decide +kernel) (by decide +kernel))
set_option maxRecDepth 20000 in
theorem kF_X2_28 : mFld RX2 28 2 4 := ⟨RX2, TX2, 6, rfl, by decide, inX2, kL_X2_28⟩
set_option maxRecDepth 20000 in
theorem kP_X2_28 : mFldP RX2 28 2 4 .int := ⟨RX2, TX2, 6, tyX2, rfl, by decide, inX2, kL_X2_28, tyX2_ok, nmX2, by decide, by decide +kernel⟩
set_option maxRecDepth 20000 in
theorem kL_X6_131 : Cond.fieldLink RX6 131 (TX2 4).1 (TX2 4).2.1 (TX2 4).2.2.1 ∈ TB ∨ ∃ host : String, Cond.fieldLinkNest RX6 131 (TX2 4).1 (TX2 4).2.1 (TX2 4).2.2.1 host ∈ TB := Or.inr ⟨"SwapCalls", tb_mem 160 (by decide +kernel) (by decide +kernel)⟩
set_option maxRecDepth 20000 in
theorem kF_X6_131 : mFld RX6 131 2 4 := ⟨RX2, TX2, 6, rfl, by decide, inX2, kL_X6_131⟩
set_option maxRecDepth 20000 in
theorem kP_X6_131 : mFldP RX6 131 2 4 .int := ⟨RX2, TX2, 6, tyX2, rfl, by decide, inX2, kL_X6_131, tyX2_ok, nmX2, by decide, by decide +kernel⟩
set_option maxRecDepth 20000 in
theorem kL_X2_32 : Cond.fieldLink RX2 32 (TX2 5).1 (TX2 5).2.1 (TX2 5).2.2.1 ∈ TB ∨ ∃ host : String, Cond.fieldLinkNest RX2 32 (TX2 5).1 (TX2 5).2.1 (TX2 5).2.2.1 host ∈ TB := Or.inl (tb_mem 161 (by decide +kernel) (by decide +kernel))
set_option maxRecDepth 20000 in
theorem kF_X2_32 : mFld RX2 32 2 5 := ⟨RX2, TX2, 6, rfl, by decide, inX2, kL_X2_32⟩
set_option maxRecDepth 20000 in
theorem kP_X2_32 : mFldP RX2 32 2 5 .int := ⟨RX2, TX2, 6, tyX2, rfl, by decide, inX2, kL_X2_32, tyX2_ok, nmX2, by decide, by decide +kernel⟩
set_option maxRecDepth 20000 in
theorem kL_X6_145 : Cond.fieldLink RX6 145 (TX2 5).1 (TX2 5).2.1 (TX2 5).2.2.1 ∈ TB ∨ ∃ host : String, Cond.fieldLinkNest RX6 145 (TX2 5).1 (TX2 5).2.1 (TX2 5).2.2.1 host ∈ TB := Or.inr ⟨"SwapCalls", tb_mem 162 (by decide +kernel) (by decide +kernel)⟩
set_option maxRecDepth 20000 in
theorem kF_X6_145 : mFld RX6 145 2 5 := ⟨RX2, TX2, 6, rfl, by decide, inX2, kL_X6_145⟩
set_option maxRecDepth 20000 in
theorem kP_X6_145 : mFldP RX6 145 2 5 .int := ⟨RX2, TX2, 6, tyX2, rfl, by decide, inX2, kL_X6_145, tyX2_ok, nmX2, by decide, by decide +kernel⟩
set_option maxRecDepth 20000 in
theorem kL_X3_9 : Cond.fieldLink RX3 9 (TX3 0).1 (TX3 0).2.1 (TX3 0).2.2.1 ∈ TB ∨ ∃ host : String, Cond.fieldLinkNest RX3 9 (TX3 0).1 (TX3 0).2.1 (TX3 0).2.2.1 host ∈ TB := Or.inl (tb_mem 182 (by decide +kernel) (by decide +kernel))
set_option maxRecDepth 20000 in
theorem kF_X3_9 : mFld RX3 9 3 0 := ⟨RX3, TX3, 5, rfl, by decide, inX3, kL_X3_9⟩
set_option maxRecDepth 20000 in
theorem kL_X6_166 : Cond.fieldLink RX6 166 (TX3 0).1 (TX3 0).2.1 (TX3 0).2.2.1 ∈ TB ∨ ∃ host : String, Cond.fieldLinkNest RX6 166 (TX3 0).1 (TX3 0).2.1 (TX3 0).2.2.1 host ∈ TB := Or.inr ⟨"SwapCalls", tb_mem 183 (by decide +kernel) (by decide +kernel)⟩
set_option maxRecDepth 20000 in
theorem kF_X6_166 : mFld RX6 166 3 0 := ⟨RX3, TX3, 5, rfl, by decide, inX3, kL_X6_166⟩
set_option maxRecDepth 20000 in
theorem kL_X3_15 : Cond.fieldLink RX3 15 (TX3 1).1 (TX3 1).2.1 (TX3 1).2.2.1 ∈ TB ∨ ∃ host : String, Cond.fieldLinkNest RX3 15 (TX3 1).1 (TX3 1).2.1 (TX3 1).2.2.1 host ∈ TB := Or.inl (tb_mem 184 (by decide +kernel) (by decide +kernel))
set_option maxRecDepth 20000 in
theorem kF_X3_15 : mFld RX3 15 3 1 := ⟨RX3, TX3, 5, rfl, by decide, inX3, kL_X3_15⟩
set_option maxRecDepth 20000 in
theorem kL_X6_169 : Cond.fieldLink RX6 169 (TX3 1).1 (TX3 1).2.1 (TX3 1).2.2.1 ∈ TB ∨ ∃ host : String, Cond.fieldLinkNest RX6 169 (TX3 1).1 (TX3 1).2.1 (TX3 1).2.2.1 host ∈ TB := Or.inr ⟨"SwapCalls", tb_mem 185 (by decide +kernel) (by decide +kernel)⟩
set_option maxRecDepth 20000 in
theorem kF_X6_169 : mFld RX6 169 3 1 := ⟨RX3, TX3, 5, rfl, by decide, inX3, kL_X6_169⟩
set_option maxRecDepth 20000 in
theorem kL_X3_18 : Cond.fieldLink RX3 18 (TX3 2).1 (TX3 2).2.1 (TX3 2).2.2.1 ∈ TB ∨ ∃ host : String, Cond.fieldLinkNest RX3 18 (TX3 2).1 (TX3 2).2.1 (TX3 2).2.2.1 host ∈ TB := Or.inl (tb_mem 186 (by decide +kernel) (by decide +kernel))
set_option maxRecDepth 20000 in
theorem kF_X3_18 : mFld RX3 18 3 2 := ⟨RX3, TX3, 5, rfl, by decide, inX3, kL_X3_18⟩
set_option maxRecDepth 20000 in
theorem kP_X3_18 : mFldP RX3 18 3 2 .int := ⟨RX3, TX3, 5, tyX3, rfl, by decide, inX3, kL_X3_18, tyX3_ok, nmX3, by decide, by decide +kernel⟩
set_option maxRecDepth 20000 in
theorem kL_X6_160 : Cond.fieldLink RX6 160 (TX3 2).1 (TX3 2).2.1 (TX3 2).2.2.1 ∈ TB ∨ ∃ host : String, Cond.fieldLinkNest RX6 160 (TX3 2).1 (TX3 2).2.1 (TX3 2).2.2.1 host ∈ TB := Or.inr ⟨"SwapCalls", tb_mem 187 (by decide +kernel) (by decide +kernel)⟩
set_option maxRecDepth 20000 in
theorem kF_X6_160 : mFld RX6 160 3 2 := ⟨RX3, TX3, 5, rfl, by decide, inX3, kL_X6_160⟩
set_option maxRecDepth 20000 in
theorem kP_X6_160 : mFldP RX6 160 3 2 .int := ⟨RX3, TX3, 5, tyX3, rfl, by decide, inX3, kL_X6_160, tyX3_ok, nmX3, by decide, by decide +kernel⟩
set_option maxRecDepth 20000 in
theorem kL_X3_22 : Cond.fieldLink RX3 22 (TX3 3).1 (TX3 3).2.1 (TX3 3).2.2.1 ∈ TB ∨ ∃ host : String, Cond.fieldLinkNest RX3 22 (TX3 3).1 (TX3 3).2.1 (TX3 3).2.2.1 host ∈ TB := Or.inl (tb_mem 188 (by decide +kernel) (by decide +kernel))
set_option maxRecDepth 20000 in
theorem kF_X3_22 : mFld RX3 22 3 3 := ⟨RX3, TX3, 5, rfl, by decide, inX3, kL_X3_22⟩
set_option maxRecDepth 20000 in
theorem kP_X3_22 : mFldP RX3 22 3 3 .int := ⟨RX3, TX3, 5, tyX3, rfl, by decide, inX3, kL_X3_22, tyX3_ok, nmX3, by decide, by decide +kernel⟩
set_option maxRecDepth 20000 in
theorem kL_X6_163 : Cond.fieldLink RX6 163 (TX3 3).1 (TX3 3).2.1 (TX3 3).2.2.1 ∈ TB ∨ ∃ host : String, Cond.fieldLinkNest RX6 163 (TX3 3).1 (TX3 3).2.1 (TX3 3).2.2.1 host ∈ TB := Or.inr ⟨"SwapCalls", tb_mem 189 (by decide +kernel) (by decide +kernel)⟩
set_option maxRecDepth 20000 in
theorem kF_X6_163 : mFld RX6 163 3 3 := ⟨RX3, TX3, 5, rfl, by decide, inX3, kL_X6_163⟩
set_option maxRecDepth 20000 in
theorem kP_X6_163 : mFldP RX6 163 3 3 .int := ⟨RX3, TX3, 5, tyX3, rfl, by decide, inX3, kL_X6_163, tyX3_ok, nmX3, by decide, by decide +kernel⟩
set_option maxRecDepth 20000 in
theorem kL_X3_25 : Cond.fieldLink RX3 25 (TX3 4).1 (TX3 4).2.1 (TX3 4).2.2.1 ∈ TB ∨ ∃ host : String, Cond.fieldLinkNest RX3 25 (TX3 4).1 (TX3 4).2.1 (TX3 4).2.2.1 host ∈ TB := Or.inl (tb_mem 190 (by decide +kernel) (by decide +kernel))
set_option maxRecDepth 20000 in
theorem kF_X3_25 : mFld RX3 25 3 4 := ⟨RX3, TX3, 5, rfl, by decide, inX3, kL_X3_25⟩
set_option maxRecDepth 20000 in
theorem kP_X3_25 : mFldP RX3 25 3 4 .int := ⟨RX3, TX3, 5, tyX3, rfl, by decide, inX3, kL_X3_25, tyX3_ok, nmX3, by decide, by decide +kernel⟩
set_option maxRecDepth 20000 in
theorem kL_X5_9 : Cond.fieldLink RX5 9 (TX5 0).1 (TX5 0).2.1 (TX5 0).2.2.1 ∈ TB ∨ ∃ host : String, Cond.fieldLinkNest RX5 9 (TX5 0).1 (TX5 0).2.1 (TX5 0).2.2.1 host ∈ TB := Or.inl (tb_mem 207 (by decide +kernel) (by decide +kernel))
set_option maxRecDepth 20000 in
theorem kF_X5_9 : mFld RX5 9 5 0 := ⟨RX5, TX5, 12, rfl, by decide, inX5, kL_X5_9⟩
set_option maxRecDepth 20000 in
theorem kL_X5_15 : Cond.fieldLink RX5 15 (TX5 1).1 (TX5 1).2.1 (TX5 1).2.2.1 ∈ TB ∨ ∃ host : String, Cond.fieldLinkNest RX5 15 (TX5 1).1 (TX5 1).2.1 (TX5 1).2.2.1 host ∈ TB := Or.inl (tb_mem 208 (by decide +kernel) (by decide +kernel))
set_option maxRecDepth 20000 in
theorem kF_X5_15 : mFld RX5 15 5 1 := ⟨RX5, TX5, 12, rfl, by decide, inX5, kL_X5_15⟩
set_option maxRecDepth 20000 in
theorem kP_X5_15 : mFldP RX5 15 5 1 .int := ⟨RX5, TX5, 12, tyX5, rfl, by decide, inX5, kL_X5_15, tyX5_ok, nmX5, by decide, by decide +kernel⟩
set_option maxRecDepth 20000 in
theorem kL_X6_62 : Cond.fieldLink RX6 62 (TX5 1).1 (TX5 1).2.1 (TX5 1).2.2.1 ∈ TB ∨ ∃ host : String, Cond.fieldLinkNest RX6 62 (TX5 1).1 (TX5 1).2.1 (TX5 1).2.2.1 host ∈ TB := Or.inr ⟨"SwapCalls", tb_mem 209 (by decide +kernel) (by decide +kernel)⟩
set_option maxRecDepth 20000 in
theorem kF_X6_62 : mFld RX6 62 5 1 := ⟨RX5, TX5, 12, rfl, by decide, inX5, kL_X6_62⟩
set_option maxRecDepth 20000 in
theorem kP_X6_62 : mFldP RX6 62 5 1 .int := ⟨RX5, TX5, 12, tyX5, rfl, by decide, inX5, kL_X6_62, tyX5_ok, nmX5, by decide, by decide +kernel⟩
set_option maxRecDepth 20000 in
theorem kL_X5_19 : Cond.fieldLink RX5 19 (TX5 2).1 (TX5 2).2.1 (TX5 2).2.2.1 ∈ TB ∨ ∃ host : String, Cond.fieldLinkNest RX5 19 (TX5 2).1 (TX5 2).2.1 (TX5 2).2.2.1 host ∈ TB := Or.inl (tb_mem 210 (by decide +kernel) (by decide +kernel))
set_option maxRecDepth 20000 in
theorem kF_X5_19 : mFld RX5 19 5 2 := ⟨RX5, TX5, 12, rfl, by decide, inX5, kL_X5_19⟩
set_option maxRecDepth 20000 in
theorem kP_X5_19 : mFldP RX5 19 5 2 .int := ⟨RX5, TX5, 12, tyX5, rfl, by decide, inX5, kL_X5_19, tyX5_ok, nmX5, by decide, by decide +kernel⟩
set_option maxRecDepth 20000 in
theorem kL_X6_76 : Cond.fieldLink RX6 76 (TX5 2).1 (TX5 2).2.1 (TX5 2).2.2.1 ∈ TB ∨ ∃ host : String, Cond.fieldLinkNest RX6 76 (TX5 2).1 (TX5 2).2.1 (TX5 2).2.2.1 host ∈ TB := Or.inr ⟨"SwapCalls", tb_mem 211 (by decide +kernel) (by decide +kernel)⟩
set_option maxRecDepth 20000 in
theorem kF_X6_76 : mFld RX6 76 5 2 := ⟨RX5, TX5, 12, rfl, by decide, inX5, kL_X6_76⟩
set_option maxRecDepth 20000 in
theorem kP_X6_76 : mFldP RX6 76 5 2 .int := ⟨RX5, TX5, 12, tyX5, rfl, by decide, inX5, kL_X6_76, tyX5_ok, nmX5, by decide, by decide +kernel⟩
set_option maxRecDepth 20000 in
theorem kL_X0_60 : Cond.fieldLink RX0 60 (TX5 2).1 (TX5 2).2.1 (TX5 2).2.2.1 ∈ TB ∨ ∃ host : String, Cond.fieldLinkNest RX0 60 (TX5 2).1 (TX5 2).2.1 (TX5 2).2.2.1 host ∈ TB := Or.inr ⟨"SwapCalls", tb_mem 212 (by decide +kernel) (by decide +kernel)⟩
set_option maxRecDepth 20000 in
theorem kF_X0_60 : mFld RX0 60 5 2 := ⟨RX5, TX5, 12, rfl, by decide, inX5, kL_X0_60⟩
set_option maxRecDepth 20000 in
theorem kP_X0_60 : mFldP RX0 60 5 2 .int := ⟨RX5, TX5, 12, tyX5, rfl, by decide, inX5, kL_X0_60, tyX5_ok, nmX5, by decide, by decide +kernel⟩
set_option maxRecDepth 20000 in
theorem kL_X5_22 : Cond.fieldLink RX5 22 (TX5 3).1 (TX5 3).2.1 (TX5 3).2.2.1 ∈ TB ∨ ∃ host : String, Cond.fieldLinkNest RX5 22 (TX5 3).1 (TX5 3).2.1 (TX5 3).2.2.1 host ∈ TB := Or.inl (tb_mem 213 (by decide +kernel) (by decide +kernel))
set_option maxRecDepth 20000 in
theorem kF_X5_22 : mFld RX5 22 5 3 := ⟨RX5, TX5, 12, rfl, by decide, inX5, kL_X5_22⟩
set_option maxRecDepth 20000 in
theorem kL_X3_61 : Cond.fieldLink RX3 61 (TX5 3).1 (TX5 3).2.1 (TX5 3).2.2.1 ∈ TB ∨ ∃ host : String, Cond.fieldLinkNest RX3 61 (TX5 3).1 (TX5 3).2.1 (TX5 3).2.2.1 host ∈ TB := Or.inr ⟨"SwapCalls", tb_mem 214 (by decide +kernel) (by decide +kernel)⟩
set_option maxRecDepth 20000 in
theorem kF_X3_61 : mFld RX3 61 5 3 := ⟨RX5, TX5, 12, rfl, by decide, inX5, kL_X3_61⟩
set_option maxRecDepth 20000 in
theorem kL_X0_83 : Cond.fieldLink RX0 83 (TX5 3).1 (TX5 3).2.1 (TX5 3).2.2.1 ∈ TB ∨ ∃ host : String, Cond.fieldLinkNest RX0 83 (TX5 3).1 (TX5 3).2.1 (TX5 3).2.2.1 host ∈ TB := Or.inr ⟨"SwapCalls", tb_mem 215 (by decide +kernel) (by decide +kernel)⟩
set_option maxRecDepth 20000 in
theorem kF_X0_83 : mFld RX0 83 5 3 := ⟨RX5, TX5, 12, rfl, by decide, inX5, kL_X0_83⟩
set_option maxRecDepth 20000 in
theorem kL_X5_25 : Cond.fieldLink RX5 25 (TX5 4).1 (TX5 4).2.1 (TX5 4).2.2.1 ∈ TB ∨ ∃ host : String, Cond.fieldLinkNest RX5 25 (TX5 4).1 (TX5 4).2.1 (TX5 4).2.2.1 host ∈ TB := Or.inl (tb_mem 216 (by decide +kernel) (by decide +kernel))
set_option maxRecDepth 20000 in
theorem kF_X5_25 : mFld RX5 25 5 4 := ⟨RX5, TX5, 12, rfl, by decide, inX5, kL_X5_25⟩
set_option maxRecDepth 20000 in
theorem kL_X3_54 : Cond.fieldLink RX3 54 (TX5 4).1 (TX5 4).2.1 (TX5 4).2.2.1 ∈ TB ∨ ∃ host : String, Cond.fieldLinkNest RX3 54 (TX5 4).1 (TX5 4).2.1 (TX5 4).2.2.1 host ∈ TB := Or.inr ⟨"SwapCalls", tb_mem 217 (by decide +kernel) (by decide +kernel)⟩
set_option maxRecDepth 20000 in
theorem kF_X3_54 : mFld RX3 54 5 4 := ⟨RX5, TX5, 12, rfl, by decide, inX5, kL_X3_54⟩
set_option maxRecDepth 20000 in
theorem kL_X0_76 : Cond.fieldLink RX0 76 (TX5 4).1 (TX5 4).2.1 (TX5 4).2.2.1 ∈ TB ∨ ∃ host : String, Cond.fieldLinkNest RX0 76 (TX5 4).1 (TX5 4).2.1 (TX5 4).2.2.1 host ∈ TB := Or.inr ⟨"SwapCalls", tb_mem 218 (by decide +kernel) (by decide +kernel)⟩
set_option maxRecDepth 20000 in
theorem kF_X0_76 : mFld RX0 76 5 4 := ⟨RX5, TX5, 12, rfl, by decide, inX5, kL_X0_76⟩
set_option maxRecDepth 20000 in
theorem kL_X5_28 : Cond.fieldLink RX5 28 (TX5 5).1 (TX5 5).2.1 (TX5 5).2.2.1 ∈ TB ∨ ∃ host : String, Cond.fieldLinkNest RX5 28 (TX5 5).1 (TX5 5).2.1 (TX5 5).2.2.1 host ∈ TB := Or.inl (tb_mem 219 (by decide +kernel) (by decide +kernel))
set_option maxRecDepth 20000 in
theorem kF_X5_28 : mFld RX5 28 5 5 := ⟨RX5, TX5, 12, rfl, by decide, inX5, kL_X5_28⟩
set_option maxRecDepth 20000 in
theorem kL_X3_64 : Cond.fieldLink RX3 64 (TX5 5).1 (TX5 5).2.1 (TX5 5).2.2.1 ∈ TB ∨ ∃ host : String, Cond.fieldLinkNest RX3 64 (TX5 5).1 (TX5 5).2.1 (TX5 5).2.2.1 host ∈ TB := Or.inr ⟨"SwapCalls", tb_mem 220 (by decide +kernel) (by decide +kernel)⟩
set_option maxRecDepth 20000 in
theorem kF_X3_64 : mFld RX3 64 5 5 := ⟨RX5, TX5, 12, rfl, by decide, inX5, kL_X3_64⟩
set_option maxRecDepth 20000 in
theorem kL_X0_99 : Cond.fieldLink RX0 99 (TX5 5).1 (TX5 5).2.1 (TX5 5).2.2.1 ∈ TB ∨ ∃ host : String, Cond.fieldLinkNest RX0 99 (TX5 5).1 (TX5 5).2.1 (TX5 5).2.2.1 host ∈ TB := Or.inr ⟨"SwapCalls", tb_mem 221 (by decide +kernel) (by decide +kernel)⟩
set_option maxRecDepth 20000 in
theorem kF_X0_99 : mFld RX0 99 5 5 := ⟨RX5, TX5, 12, rfl, by decide, inX5, kL_X0_99⟩
set_option maxRecDepth 20000 in
theorem kL_X5_31 : Cond.fieldLink RX5 31 (TX5 6).1 (TX5 6).2.1 (TX5 6).2.2.1 ∈ TB ∨ ∃ host : String, Cond.fieldLinkNest RX5 31 (TX5 6).1 (TX5 6).2.1 (TX5 6).2.2.1 host ∈ TB := Or.inl (tb_mem 222 (by decide +kernel) (by decide +kernel))
set_option maxRecDepth 20000 in
theorem kF_X5_31 : mFld RX5 31 5 6 := ⟨RX5, TX5, 12, rfl, by decide, inX5, kL_X5_31⟩
set_option maxRecDepth 20000 in
theorem kL_X3_79 : Cond.fieldLink RX3 79 (TX5 6).1 (TX5 6).2.1 (TX5 6).2.2.1 ∈ TB ∨ ∃ host : String, Cond.fieldLinkNest RX3 79 (TX5 6).1 (TX5 6).2.1 (TX5 6).2.2.1 host ∈ TB := Or.inr ⟨"SwapCalls", tb_mem 223 (by decide +kernel) (by decide +kernel)⟩
set_option maxRecDepth 20000 in
theorem kF_X3_79 : mFld RX3 79 5 6 := ⟨RX5, TX5, 12, rfl, by decide, inX5, kL_X3_79⟩
set_option maxRecDepth 20000 in
theorem kL_X5_34 : Cond.fieldLink RX5 34 (TX5 7).1 (TX5 7).2.1 (TX5 7).2.2.1 ∈ TB ∨ ∃ host : String, Cond.fieldLinkNest RX5 34 (TX5 7).1 (TX5 7).2.1 (TX5 7).2.2.1 host ∈ TB := Or.inl (tb_mem 224 (by decide +kernel) (by decide +kernel))
set_option maxRecDepth 20000 in
theorem kF_X5_34 : mFld RX5 34 5 7 := ⟨RX5, TX5, 12, rfl, by decide, inX5, kL_X5_34⟩
set_option maxRecDepth 20000 in
theorem kP_X5_34 : mFldP RX5 34 5 7 .int := ⟨RX5, TX5, 12, tyX5, rfl, by decide, inX5, kL_X5_34, tyX5_ok, nmX5, by decide, by decide +kernel⟩
set_option maxRecDepth 20000 in
theorem kL_X3_49 : Cond.fieldLink RX3 49 (TX5 7).1 (TX5 7).2.1 (TX5 7).2.2.1 ∈ TB ∨ ∃ host : String, Cond.fieldLinkNest RX3 49 (TX5 7).1 (TX5 7).2.1 (TX5 7).2.2.1 host ∈ TB := Or.inr ⟨"SwapCalls", tb_mem 225 (by decide +kernel) (by decide +kernel)⟩
set_option maxRecDepth 20000 in
theorem kF_X3_49 : mFld RX3 49 5 7 := ⟨RX5, TX5, 12, rfl, by decide, inX5, kL_X3_49⟩
set_option maxRecDepth 20000 in
theorem kP_X3_49 : mFldP RX3 49 5 7 .int := ⟨RX5, TX5, 12, tyX5, rfl, by decide, inX5, kL_X3_49, tyX5_ok, nmX5, by decide, by decide +kernel⟩
set_option maxRecDepth 20000 in
theorem kL_X0_73 : Cond.fieldLink RX0 73 (TX5 7).1 (TX5 7).2.1 (TX5 7).2.2.1 ∈ TB ∨ ∃ host : String, Cond.fieldLinkNest RX0 73 (TX5 7).1 (TX5 7).2.1 (TX5 7).2.2.1 host ∈ TB := Or.inr ⟨"SwapCalls", tb_mem 226 (by decide +kernel) (by decide +kernel)⟩
set_option maxRecDepth 20000 in
theorem kF_X0_73 : mFld RX0 73 5 7 := ⟨RX5, TX5, 12, rfl, by decide, inX5, kL_X0_73⟩
set_option maxRecDepth 20000 in
theorem kP_X0_73 : mFldP RX0 73 5 7 .int := ⟨RX5, TX5, 12, tyX5, rfl, by decide, inX5, kL_X0_73, tyX5_ok, nmX5, by decide, by decide +kernel⟩
set_option maxRecDepth 20000 in
theorem kL_X6_192 : Cond.fieldLink RX6 192 (TX5 7).1 (TX5 7).2.1 (TX5 7).2.2.1 ∈ TB ∨ ∃ host : String, Cond.fieldLinkNest RX6 192 (TX5 7).1 (TX5 7).2.1 (TX5 7).2.2.1 host ∈ TB := Or.inr ⟨"SwapCalls", tb_mem 227 (by decide +kernel) (by decide +kernel)⟩
set_option maxRecDepth 20000 in
theorem kF_X6_192 : mFld RX6 192 5 7 := ⟨RX5, TX5, 12, rfl, by decide, inX5, kL_X6_192⟩
set_option maxRecDepth 20000 in
theorem kP_X6_192 : mFldP RX6 192 5 7 .int := ⟨RX5, TX5, 12, tyX5, rfl, by decide, inX5, kL_X6_192, tyX5_ok, nmX5, by decide, by decide +kernel⟩
set_option maxRecDepth 20000 in
theorem kL_X5_37 : Cond.fieldLink RX5 37 (TX5 8).1 (TX5 8).2.1 (TX5 8).2.2.1 ∈ TB ∨ ∃ host : String, Cond.fieldLinkNest RX5 37 (TX5 8).1 (TX5 8).2.1 (TX5 8).2.2.1 host ∈ TB := Or.inl (tb_mem 228 (by decide +kernel) (by decide +kernel))
set_option maxRecDepth 20000 in
theorem kF_X5_37 : mFld RX5 37 5 8 := ⟨RX5, TX5, 12, rfl, by decide, inX5, kL_X5_37⟩
set_option maxRecDepth 20000 in
theorem kL_X3_85 : Cond.fieldLink RX3 85 (TX5 8).1 (TX5 8).2.1 (TX5 8).2.2.1 ∈ TB ∨ ∃ host : String, Cond.fieldLinkNest RX3 85 (TX5 8).1 (TX5 8).2.1 (TX5 8).2.2.1 host ∈ TB := Or.inr ⟨"SwapCalls", tb_mem 229 (by decide +kernel) (by decide +kernel)⟩
set_option maxRecDepth 20000 in
theorem kF_X3_85 : mFld RX3 85 5 8 := ⟨RX5, TX5, 12, rfl, by decide, inX5, kL_X3_85⟩
set_option maxRecDepth 20000 in
theorem kL_X0_89 : Cond.fieldLink RX0 89 (TX5 8).1 (TX5 8).2.1 (TX5 8).2.2.1 ∈ TB ∨ ∃ host : String, Cond.fieldLinkNest RX0 89 (TX5 8).1 (TX5 8).2.1 (TX5 8).2.2.1 host ∈ TB := Or.inr ⟨"SwapCalls", tb_mem 230 (by decide +kernel) (by decide +kernel)⟩
set_option maxRecDepth 20000 in
theorem kF_X0_89 : mFld RX0 89 5 8 := ⟨RX5, TX5, 12, rfl, by decide, inX5, kL_X0_89⟩
set_option maxRecDepth 20000 in
theorem kL_X5_40 : Cond.fieldLink RX5 40 (TX5 9).1 (TX5 9).2.1 (TX5 9).2.2.1 ∈ TB ∨ ∃ host : String, Cond.fieldLinkNest RX5 40 (TX5 9).1 (TX5 9).2.1 (TX5 9).2.2.1 host ∈ TB := Or.inl (tb_mem 231 (by decide +kernel) (by decide +kernel))
set_option maxRecDepth 20000 in
theorem kF_X5_40 : mFld RX5 40 5 9 := ⟨RX5, TX5, 12, rfl, by decide, inX5, kL_X5_40⟩
set_option maxRecDepth 20000 in
theorem kL_X3_82 : Cond.fieldLink RX3 82 (TX5 9).1 (TX5 9).2.1 (TX5 9).2.2.1 ∈ TB ∨ ∃ host : String, Cond.fieldLinkNest RX3 82 (TX5 9).1 (TX5 9).2.1 (TX5 9).2.2.1 host ∈ TB := Or.inr ⟨"SwapCalls", tb_mem 232 (by decide +kernel) (by decide +kernel)⟩
set_option maxRecDepth 20000 in
theorem kF_X3_82 : mFld RX3 82 5 9 := ⟨RX5, TX5, 12, rfl, by decide, inX5, kL_X3_82⟩
set_option maxRecDepth 20000 in
theorem kL_X0_92 : Cond.fieldLink RX0 92 (TX5 9).1 (TX5 9).2.1 (TX5 9).2.2.1 ∈ TB ∨ ∃ host : String, Cond.fieldLinkNest RX0 92 (TX5 9).1 (TX5 9).2.1 (TX5 9).2.2.1 host ∈ TB := Or.inr ⟨"SwapCalls", tb_mem 233 (by decide +kernel) (by decide +kernel)⟩
set_option maxRecDepth 20000 in
theorem kF_X0_92 : mFld RX0 92 5 9 := ⟨RX5, TX5, 12, rfl, by decide, inX5, kL_X0_92⟩
set_option maxRecDepth 20000 in
theorem kL_X5_43 : Cond.fieldLink RX5 43 (TX5 10).1 (TX5 10).2.1 (TX5 10).2.2.1 ∈ TB ∨ ∃ host : String, Cond.fieldLinkNest RX5 43 (TX5 10).1 (TX5 10).2.1 (TX5 10).2.2.1 host ∈ TB := Or.inl (tb_mem 234 (by decide +kernel) (by decide +kernel))
set_option maxRecDepth 20000 in
theorem kF_X5_43 : mFld RX5 43 5 10 := ⟨RX5, TX5, 12, rfl, by decide, inX5, kL_X5_43⟩
set_option maxRecDepth 20000 in
theorem kP_X5_43 : mFldP RX5 43 5 10 .int := ⟨RX5, TX5, 12, tyX5, rfl, by decide, inX5, kL_X5_43, tyX5_ok, nmX5, by decide, by decide +kernel⟩
set_option maxRecDepth 20000 in
theorem kL_X0_86 : Cond.fieldLink RX0 86 (TX5 10).1 (TX5 10).2.1 (TX5 10).2.2.1 ∈ TB ∨ ∃ host : String, Cond.fieldLinkNest RX0 86 (TX5 10).1 (TX5 10).2.1 (TX5 10).2.2.1 host ∈ TB := Or.inr ⟨"SwapCalls", tb_mem 235 (by decide +kernel) (by decide +kernel)⟩
set_option maxRecDepth 20000 in
theorem kF_X0_86 : mFld RX0 86 5 10 := ⟨RX5, TX5, 12, rfl, by decide, inX5, kL_X0_86⟩
set_option maxRecDepth 20000 in
theorem kP_X0_86 : mFldP RX0 86 5 10 .int := ⟨RX5, TX5, 12, tyX5, rfl, by decide, inX5, kL_X0_86, tyX5_ok, nmX5, by decide, by decide +kernel⟩
set_option maxRecDepth 20000 in
theorem kL_X5_46 : Cond.fieldLink RX5 46 (TX5 11).1 (TX5 11).2.1 (TX5 11).2.2.1 ∈ TB ∨ ∃ host : String, Cond.fieldLinkNest RX5 46 (TX5 11).1 (TX5 11).2.1 (TX5 11).2.2.1 host ∈ TB := Or.inl (tb_mem 236 (by decide +kernel) (by decide +kernel))
set_option maxRecDepth 20000 in
theorem kF_X5_46 : mFld RX5 46 5 11 := ⟨RX5, TX5, 12, rfl, by decide, inX5, kL_X5_46⟩
set_option maxRecDepth 20000 in
theorem kP_X5_46 : mFldP RX5 46 5 11 .int := ⟨RX5, TX5, 12, tyX5, rfl, by decide, inX5, kL_X5_46, tyX5_ok, nmX5, by decide, by decide +kernel⟩
set_option maxRecDepth 20000 in
theorem kL_X1_9 : Cond.fieldLink RX1 9 (TX1 0).1 (TX1 0).2.1 (TX1 0).2.2.1 ∈ TB ∨ ∃ host : String, Cond.fieldLinkNest RX1 9 (TX1 0).1 (TX1 0).2.1 (TX1 0).2.2.1 host ∈ TB := Or.inl (tb_mem 269 (by decide +kernel) (by decide +kernel))
set_option maxRecDepth 20000 in
theorem kF_X1_9 : mFld RX1 9 1 0 := ⟨RX1, TX1, 3, rfl, by decide, inX1, kL_X1_9⟩
set_option maxRecDepth 20000 in
theorem kL_X6_182 : Cond.fieldLink RX6 182 (TX1 0).1 (TX1 0).2.1 (TX1 0).2.2.1 ∈ TB ∨ ∃ host : String, Cond.fieldLinkNest RX6 182 (TX1 0).1 (TX1 0).2.1 (TX1 0).2.2.1 host ∈ TB := Or.inr ⟨"SwapCalls", tb_mem 270 (by decide +kernel) (by decide +kernel)⟩
set_option maxRecDepth 20000 in
theorem kF_X6_182 : mFld RX6 182 1 0 := ⟨RX1, TX1, 3, rfl, by decide, inX1, kL_X6_182⟩
set_option maxRecDepth 20000 in
theorem kL_X1_18 : Cond.fieldLink RX1 18 (TX1 1).1 (TX1 1).2.1 (TX1 1).2.2.1 ∈ TB ∨ ∃ host : String, Cond.fieldLinkNest RX1 18 (TX1 1).1 (TX1 1).2.1 (TX1 1).2.2.1 host ∈ TB := Or.inl (tb_mem 271 (by decide +kernel) (by decide +kernel))
set_option maxRecDepth 20000 in
theorem kF_X1_18 : mFld RX1 18 1 1 := ⟨RX1, TX1, 3, rfl, by decide, inX1, kL_X1_18⟩
set_option maxRecDepth 20000 in
theorem kL_X6_151 : Cond.fieldLink RX6 151 (TX1 1).1 (TX1 1).2.1 (TX1 1).2.2.1 ∈ TB ∨ ∃ host : String, Cond.fieldLinkNest RX6 151 (TX1 1).1 (TX1 1).2.1 (TX1 1).2.2.1 host ∈ TB := Or.inr ⟨"SwapCalls", tb_mem 272 (by decide +kernel) (by decide +kernel)⟩
set_option maxRecDepth 20000 in
theorem kF_X6_151 : mFld RX6 151 1 1 := ⟨RX1, TX1, 3, rfl, by decide, inX1, kL_X6_151⟩
set_option maxRecDepth 20000 in
theorem kL_X1_22 : Cond.fieldLink RX1 22 (TX1 2).1 (TX1 2).2.1 (TX1 2).2.2.1 ∈ TB ∨ ∃ host : String, Cond.fieldLinkNest RX1 22 (TX1 2).1 (TX1 2).2.1 (TX1 2).2.2.1 host ∈ TB := Or.inl (tb_mem 273 (by decide +kernel) (by decide +kernel))
set_option maxRecDepth 20000 in
theorem kF_X1_22 : mFld RX1 22 1 2 := ⟨RX1, TX1, 3, rfl, by decide, inX1, kL_X1_22⟩
set_option maxRecDepth 20000 in
theorem kP_X1_22 : mFldP RX1 22 1 2 .boolean := ⟨RX1, TX1, 3, tyX1, rfl, by decide, inX1, kL_X1_22, tyX1_ok, nmX1, by decide, by decide +kernel⟩
set_option maxRecDepth 20000 in
theorem kL_X6_127 : Cond.fieldLink RX6 127 (TX1 2).1 (TX1 2).2.1 (TX1 2).2.2.1 ∈ TB ∨ ∃ host : String, Cond.fieldLinkNest RX6 127 (TX1 2).1 (TX1 2).2.1 (TX1 2).2.2.1 host ∈ TB := Or.inr ⟨"SwapCalls", tb_mem 274 (by decide +kernel) (by decide +kernel)⟩
set_option maxRecDepth 20000 in
theorem kF_X6_127 : mFld RX6 127 1 2 := ⟨RX1, TX1, 3, rfl, by decide, inX1, kL_X6_127⟩
set_option maxRecDepth 20000 in
theorem kP_X6_127 : mFldP RX6 127 1 2 .boolean := ⟨RX1, TX1, 3, tyX1, rfl, by decide, inX1, kL_X6_127, tyX1_ok, nmX1, by decide, by decide +kernel⟩
set_option maxRecDepth 20000 in
theorem kL_X6_11 : Cond.fieldLink RX6 11 (TX6 0).1 (TX6 0).2.1 (TX6 0).2.2.1 ∈ TB ∨ ∃ host : String, Cond.fieldLinkNest RX6 11 (TX6 0).1 (TX6 0).2.1 (TX6 0).2.2.1 host ∈ TB := Or.inl (tb_mem 282 (by decide +kernel) (by decide +kernel))
set_option maxRecDepth 20000 in
theorem kF_X6_11 : mFld RX6 11 6 0 := ⟨RX6, TX6, 8, rfl, by decide, inX6, kL_X6_11⟩
set_option maxRecDepth 20000 in
theorem kL_X6_18 : Cond.fieldLink RX6 18 (TX6 1).1 (TX6 1).2.1 (TX6 1).2.2.1 ∈ TB ∨ ∃ host : String, Cond.fieldLinkNest RX6 18 (TX6 1).1 (TX6 1).2.1 (TX6 1).2.2.1 host ∈ TB := Or.inl (tb_mem 283 (by decide +kernel) (by decide +kernel))
set_option maxRecDepth 20000 in
theorem kF_X6_18 : mFld RX6 18 6 1 := ⟨RX6, TX6, 8, rfl, by decide, inX6, kL_X6_18⟩
set_option maxRecDepth 20000 in
theorem kL_X6_22 : Cond.fieldLink RX6 22 (TX6 2).1 (TX6 2).2.1 (TX6 2).2.2.1 ∈ TB ∨ ∃ host : String, Cond.fieldLinkNest RX6 22 (TX6 2).1 (TX6 2).2.1 (TX6 2).2.2.1 host ∈ TB := Or.inl (tb_mem 284 (by decide +kernel) (by decide +kernel))
set_option maxRecDepth 20000 in
theorem kF_X6_22 : mFld RX6 22 6 2 := ⟨RX6, TX6, 8, rfl, by decide, inX6, kL_X6_22⟩
set_option maxRecDepth 20000 in
theorem kL_X6_29 : Cond.fieldLink RX6 29 (TX6 3).1 (TX6 3).2.1 (TX6 3).2.2.1 ∈ TB ∨ ∃ host : String, Cond.fieldLinkNest RX6 29 (TX6 3).1 (TX6 3).2.1 (TX6 3).2.2.1 host ∈ TB := Or.inl (tb_mem 285 (by decide +kernel) (by decide +kernel))
set_option maxRecDepth 20000 in
theorem kF_X6_29 : mFld RX6 29 6 3 := ⟨RX6, TX6, 8, rfl, by decide, inX6, kL_X6_29⟩
set_option maxRecDepth 20000 in
theorem kL_X6_35 : Cond.fieldLink RX6 35 (TX6 4).1 (TX6 4).2.1 (TX6 4).2.2.1 ∈ TB ∨ ∃ host : String, Cond.fieldLinkNest RX6 35 (TX6 4).1 (TX6 4).2.1 (TX6 4).2.2.1 host ∈ TB := Or.inl (tb_mem 286 (by decide +kernel) (by decide +kernel))
set_option maxRecDepth 20000 in
theorem kF_X6_35 : mFld RX6 35 6 4 := ⟨RX6, TX6, 8, rfl, by decide, inX6, kL_X6_35⟩
set_option maxRecDepth 20000 in
theorem kL_X6_42 : Cond.fieldLink RX6 42 (TX6 5).1 (TX6 5).2.1 (TX6 5).2.2.1 ∈ TB ∨ ∃ host : String, Cond.fieldLinkNest RX6 42 (TX6 5).1 (TX6 5).2.1 (TX6 5).2.2.1 host ∈ TB := Or.inl (tb_mem 287 (by decide +kernel) (by decide +kernel))
set_option maxRecDepth 20000 in
theorem kF_X6_42 : mFld RX6 42 6 5 := ⟨RX6, TX6, 8, rfl, by decide, inX6, kL_X6_42⟩
set_option maxRecDepth 20000 in
theorem kL_X6_46 : Cond.fieldLink RX6 46 (TX6 6).1 (TX6 6).2.1 (TX6 6).2.2.1 ∈ TB ∨ ∃ host : String, Cond.fieldLinkNest RX6 46 (TX6 6).1 (TX6 6).2.1 (TX6 6).2.2.1 host ∈ TB := Or.inl (tb_mem 288 (by decide +kernel) (by decide +kernel))
set_option maxRecDepth 20000 in
theorem kF_X6_46 : mFld RX6 46 6 6 := ⟨RX6, TX6, 8, rfl, by decide, inX6, kL_X6_46⟩
set_option maxRecDepth 20000 in
theorem kL_X6_52 : Cond.fieldLink RX6 52 (TX6 7).1 (TX6 7).2.1 (TX6 7).2.2.1 ∈ TB ∨ ∃ host : String, Cond.fieldLinkNest RX6 52 (TX6 7).1 (TX6 7).2.1 (TX6 7).2.2.1 host ∈ TB := Or.inl (tb_mem 289 (by decide +kernel) (by decide +kernel))
set_option maxRecDepth 20000 in
theorem kF_X6_52 : mFld RX6 52 6 7 := ⟨RX6, TX6, 8, rfl, by decide, inX6, kL_X6_52⟩
set_option maxRecDepth 20000 in
theorem kL_X7_7 : Cond.fieldLink RX7 7 (TX7 0).1 (TX7 0).2.1 (TX7 0).2.2.1 ∈ TB ∨ ∃ host : String, Cond.fieldLinkNest RX7 7 (TX7 0).1 (TX7 0).2.1 (TX7 0).2.2.1 host ∈ TB := Or.inl (tb_mem 603 (by decide +kernel) (by decide +kernel))
set_option maxRecDepth 20000 in
theorem kF_X7_7 : mFld RX7 7 7 0 := ⟨RX7, TX7, 39, rfl, by decide, inX7, kL_X7_7⟩
set_option maxRecDepth 20000 in
theorem kL_X7_13 : Cond.fieldLink RX7 13 (TX7 1).1 (TX7 1).2.1 (TX7 1).2.2.1 ∈ TB ∨ ∃ host : String, Cond.fieldLinkNest RX7 13 (TX7 1).1 (TX7 1).2.1 (TX7 1).2.2.1 host ∈ TB := Or.inl (tb_mem 604 (by decide +kernel) (by decide +kernel))
set_option maxRecDepth 20000 in
theorem kF_X7_13 : mFld RX7 13 7 1 := ⟨RX7, TX7, 39, rfl, by decide, inX7, kL_X7_13⟩
set_option maxRecDepth 20000 in
theorem kL_X7_16 : Cond.fieldLink RX7 16 (TX7 2).1 (TX7 2).2.1 (TX7 2).2.2.1 ∈ TB ∨ ∃ host : String, Cond.fieldLinkNest RX7 16 (TX7 2).1 (TX7 2).2.1 (TX7 2).2.2.1 host ∈ TB := Or.inl (tb_mem 605 (by decide +kernel) (by decide +kernel))
set_option maxRecDepth 20000 in
theorem kF_X7_16 : mFld RX7 16 7 2 := ⟨RX7, TX7, 39, rfl, by decide, inX7, kL_X7_16⟩
set_option maxRecDepth 20000 in
theorem kL_X7_19 : Cond.fieldLink RX7 19 (TX7 3).1 (TX7 3).2.1 (TX7 3).2.2.1 ∈ TB ∨ ∃ host : String, Cond.fieldLinkNest RX7 19 (TX7 3).1 (TX7 3).2.1 (TX7 3).2.2.1 host ∈ TB := Or.inl (tb_mem 606 (by decide +kernel) (by decide +kernel))
set_option maxRecDepth 20000 in
theorem kF_X7_19 : mFld RX7 19 7 3 := ⟨RX7, TX7, 39, rfl, by decide, inX7, kL_X7_19⟩
set_option maxRecDepth 20000 in
theorem kL_X7_22 : Cond.fieldLink RX7 22 (TX7 4).1 (TX7 4).2.1 (TX7 4).2.2.1 ∈ TB ∨ ∃ host : String, Cond.fieldLinkNest RX7 22 (TX7 4).1 (TX7 4).2.1 (TX7 4).2.2.1 host ∈ TB := Or.inl (tb_mem 607 (by decide +kernel) (by decide +kernel))
set_option maxRecDepth 20000 in
theorem kF_X7_22 : mFld RX7 22 7 4 := ⟨RX7, TX7, 39, rfl, by decide, inX7, kL_X7_22⟩
set_option maxRecDepth 20000 in
theorem kL_X7_203 : Cond.fieldLink RX7 203 (TX7 5).1 (TX7 5).2.1 (TX7 5).2.2.1 ∈ TB ∨ ∃ host : String, Cond.fieldLinkNest RX7 203 (TX7 5).1 (TX7 5).2.1 (TX7 5).2.2.1 host ∈ TB := Or.inl (tb_mem 608 (by decide +kernel) (by decide +kernel))
set_option maxRecDepth 20000 in
theorem kF_X7_203 : mFld RX7 203 7 5 := ⟨RX7, TX7, 39, rfl, by decide, inX7, kL_X7_203⟩
set_option maxRecDepth 20000 in
theorem kP_X7_203 : mFldP RX7 203 7 5 .int := ⟨RX7, TX7, 39, tyX7, rfl, by decide, inX7, kL_X7_203, tyX7_ok, nmX7, by decide, by decide +kernel⟩
set_option maxRecDepth 20000 in
theorem kL_X7_95 : Cond.fieldLink RX7 95 (TX7 6).1 (TX7 6).2.1 (TX7 6).2.2.1 ∈ TB ∨ ∃ host : String, Cond.fieldLinkNest RX7 95 (TX7 6).1 (TX7 6).2.1 (TX7 6).2.2.1 host ∈ TB := Or.inl (tb_mem 609 (by decide +kernel) (by decide +kernel))
set_option maxRecDepth 20000 in
theorem kF_X7_95 : mFld RX7 95 7 6 := ⟨RX7, TX7, 39, rfl, by decide, inX7, kL_X7_95⟩
set_option maxRecDepth 20000 in
theorem kP_X7_95 : mFldP RX7 95 7 6 .int := ⟨RX7, TX7, 39, tyX7, rfl, by decide, inX7, kL_X7_95, tyX7_ok, nmX7, by decide, by decide +kernel⟩
set_option maxRecDepth 20000 in
theorem kL_X7_99 : Cond.fieldLink RX7 99 (TX7 7).1 (TX7 7).2.1 (TX7 7).2.2.1 ∈ TB ∨ ∃ host : String, Cond.fieldLinkNest RX7 99 (TX7 7).1 (TX7 7).2.1 (TX7 7).2.2.1 host ∈ TB := Or.inl (tb_mem 610 (by decide +kernel) (by decide +kernel))
set_option maxRecDepth 20000 in
theorem kF_X7_99 : mFld RX7 99 7 7 := ⟨RX7, TX7, 39, rfl, by decide, inX7, kL_X7_99⟩
set_option maxRecDepth 20000 in
theorem kP_X7_99 : mFldP RX7 99 7 7 .int := ⟨RX7, TX7, 39, tyX7, rfl, by decide, inX7, kL_X7_99, tyX7_ok, nmX7, by decide, by decide +kernel⟩
set_option maxRecDepth 20000 in
theorem kL_X7_112 : Cond.fieldLink RX7 112 (TX7 8).1 (TX7 8).2.1 (TX7 8).2.2.1 ∈ TB ∨ ∃ host : String, Cond.fieldLinkNest RX7 112 (TX7 8).1 (TX7 8).2.1 (TX7 8).2.2.1 host ∈ TB := Or.inl (tb_mem 611 (by decide +kernel) (by decide +kernel))
set_option maxRecDepth 20000 in
theorem kF_X7_112 : mFld RX7 112 7 8 := ⟨RX7, TX7, 39, rfl, by decide, inX7, kL_X7_112⟩
set_option maxRecDepth 20000 in
theorem kP_X7_112 : mFldP RX7 112 7 8 .int := ⟨RX7, TX7, 39, tyX7, rfl, by decide, inX7, kL_X7_112, tyX7_ok, nmX7, by decide, by decide +kernel⟩
set_option maxRecDepth 20000 in
theorem kL_X7_115 : Cond.fieldLink RX7 115 (TX7 9).1 (TX7 9).2.1 (TX7 9).2.2.1 ∈ TB ∨ ∃ host : String, Cond.fieldLinkNest RX7 115 (TX7 9).1 (TX7 9).2.1 (TX7 9).2.2.1 host ∈ TB := Or.inl (tb_mem 612 (by decide +kernel) (by decide +kernel))
set_option maxRecDepth 20000 in
theorem kF_X7_115 : mFld RX7 115 7 9 := ⟨RX7, TX7, 39, rfl, by decide, inX7, kL_X7_115⟩
set_option maxRecDepth 20000 in
theorem kP_X7_115 : mFldP RX7 115 7 9 .int := ⟨RX7, TX7, 39, tyX7, rfl, by decide, inX7, kL_X7_115, tyX7_ok, nmX7, by decide, by decide +kernel⟩
set_option maxRecDepth 20000 in
theorem kL_X7_133 : Cond.fieldLink RX7 133 (TX7 10).1 (TX7 10).2.1 (TX7 10).2.2.1 ∈ TB ∨ ∃ host : String, Cond.fieldLinkNest RX7 133 (TX7 10).1 (TX7 10).2.1 (TX7 10).2.2.1 host ∈ TB := Or.inl (tb_mem 613 (by decide +kernel) (by decide +kernel))
set_option maxRecDepth 20000 in
theorem kF_X7_133 : mFld RX7 133 7 10 := ⟨RX7, TX7, 39, rfl, by decide, inX7, kL_X7_133⟩
set_option maxRecDepth 20000 in
theorem kP_X7_133 : mFldP RX7 133 7 10 .int := ⟨RX7, TX7, 39, tyX7, rfl, by decide, inX7, kL_X7_133, tyX7_ok, nmX7, by decide, by decide +kernel⟩
set_option maxRecDepth 20000 in
theorem kL_X7_124 : Cond.fieldLink RX7 124 (TX7 11).1 (TX7 11).2.1 (TX7 11).2.2.1 ∈ TB ∨ ∃ host : String, Cond.fieldLinkNest RX7 124 (TX7 11).1 (TX7 11).2.1 (TX7 11).2.2.1 host ∈ TB := Or.inl (tb_mem 614 (by decide +kernel) (by decide +kernel))
set_option maxRecDepth 20000 in
theorem kF_X7_124 : mFld RX7 124 7 11 := ⟨RX7, TX7, 39, rfl, by decide, inX7, kL_X7_124⟩
set_option maxRecDepth 20000 in
theorem kP_X7_124 : mFldP RX7 124 7 11 .int := ⟨RX7, TX7, 39, tyX7, rfl, by decide, inX7, kL_X7_124, tyX7_ok, nmX7, by decide, by decide +kernel⟩
set_option maxRecDepth 20000 in
theorem kL_X7_127 : Cond.fieldLink RX7 127 (TX7 12).1 (TX7 12).2.1 (TX7 12).2.2.1 ∈ TB ∨ ∃ host : String, Cond.fieldLinkNest RX7 127 (TX7 12).1 (TX7 12).2.1 (TX7 12).2.2.1 host ∈ TB := Or.inl (tb_mem 615 (by decide +kernel) (by decide +kernel))
set_option maxRecDepth 20000 in
theorem kF_X7_127 : mFld RX7 127 7 12 := ⟨RX7, TX7, 39, rfl, by decide, inX7, kL_X7_127⟩
set_option maxRecDepth 20000 in
theorem kP_X7_127 : mFldP RX7 127 7 12 .int := ⟨RX7, TX7, 39, tyX7, rfl, by decide, inX7, kL_X7_127, tyX7_ok, nmX7, by decide, by decide +kernel⟩
set_option maxRecDepth 20000 in
theorem kL_X7_130 : Cond.fieldLink RX7 130 (TX7 13).1 (TX7 13).2.1 (TX7 13).2.2.1 ∈ TB ∨ ∃ host : String, Cond.fieldLinkNest RX7 130 (TX7 13).1 (TX7 13).2.1 (TX7 13).2.2.1 host ∈ TB := Or.inl (tb_mem 616 (by decide +kernel) (by decide +kernel))
set_option maxRecDepth 20000 in
theorem kF_X7_130 : mFld RX7 130 7 13 := ⟨RX7, TX7, 39, rfl, by decide, inX7, kL_X7_130⟩
set_option maxRecDepth 20000 in
theorem kP_X7_130 : mFldP RX7 130 7 13 .int := ⟨RX7, TX7, 39, tyX7, rfl, by decide, inX7, kL_X7_130, tyX7_ok, nmX7, by decide, by decide +kernel⟩
set_option maxRecDepth 20000 in
theorem kL_X7_25 : Cond.fieldLink RX7 25 (TX7 14).1 (TX7 14).2.1 (TX7 14).2.2.1 ∈ TB ∨ ∃ host : String, Cond.fieldLinkNest RX7 25 (TX7 14).1 (TX7 14).2.1 (TX7 14).2.2.1 host ∈ TB := Or.inl (tb_mem 617 (by decide +kernel) (by decide +kernel))
set_option maxRecDepth 20000 in
theorem kF_X7_25 : mFld RX7 25 7 14 := ⟨RX7, TX7, 39, rfl, by decide, inX7, kL_X7_25⟩
set_option maxRecDepth 20000 in
theorem kL_X7_28 : Cond.fieldLink RX7 28 (TX7 15).1 (TX7 15).2.1 (TX7 15).2.2.1 ∈ TB ∨ ∃ host : String, Cond.fieldLinkNest RX7 28 (TX7 15).1 (TX7 15).2.1 (TX7 15).2.2.1 host ∈ TB := Or.inl (tb_mem 618 (by decide +kernel) (by decide +kernel))
set_option maxRecDepth 20000 in
theorem kF_X7_28 : mFld RX7 28 7 15 := ⟨RX7, TX7, 39, rfl, by decide, inX7, kL_X7_28⟩
set_option maxRecDepth 20000 in
theorem kL_X7_31 : Cond.fieldLink RX7 31 (TX7 16).1 (TX7 16).2.1 (TX7 16).2.2.1 ∈ TB ∨ ∃ host : String, Cond.fieldLinkNest RX7 31 (TX7 16).1 (TX7 16).2.1 (TX7 16).2.2.1 host ∈ TB := Or.inl (tb_mem 619 (by decide +kernel) (by decide +kernel))
set_option maxRecDepth 20000 in
theorem kF_X7_31 : mFld RX7 31 7 16 := ⟨RX7, TX7, 39, rfl, by decide, inX7, kL_X7_31⟩
set_option maxRecDepth 20000 in
theorem kL_X7_34 : Cond.fieldLink RX7 34 (TX7 17).1 (TX7 17).2.1 (TX7 17).2.2.1 ∈ TB ∨ ∃ host : String, Cond.fieldLinkNest RX7 34 (TX7 17).1 (TX7 17).2.1 (TX7 17).2.2.1 host ∈ TB := Or.inl (tb_mem 620 (by decide +kernel) (by decide +kernel))
set_option maxRecDepth 20000 in
theorem kF_X7_34 : mFld RX7 34 7 17 := ⟨RX7, TX7, 39, rfl, by decide, inX7, kL_X7_34⟩
set_option maxRecDepth 20000 in
theorem kL_X7_37 : Cond.fieldLink RX7 37 (TX7 18).1 (TX7 18).2.1 (TX7 18).2.2.1 ∈ TB ∨ ∃ host : String, Cond.fieldLinkNest RX7 37 (TX7 18).1 (TX7 18).2.1 (TX7 18).2.2.1 host ∈ TB := Or.inl (tb_mem 621 (by decide +kernel) (by decide +kernel))
set_option maxRecDepth 20000 in
theorem kF_X7_37 : mFld RX7 37 7 18 := ⟨RX7, TX7, 39, rfl, by decide, inX7, kL_X7_37⟩
set_option maxRecDepth 20000 in
theorem kL_X7_40 : Cond.fieldLink RX7 40 (TX7 19).1 (TX7 19).2.1 (TX7 19).2.2.1 ∈ TB ∨ ∃ host : String, Cond.fieldLinkNest RX7 40 (TX7 19).1 (TX7 19).2.1 (TX7 19).2.2.1 host ∈ TB := Or.inl (tb_mem 622 (by decide +kernel) (by decide +kernel))
set_option maxRecDepth 20000 in
theorem kF_X7_40 : mFld RX7 40 7 19 := ⟨RX7, TX7, 39, rfl, by decide, inX7, kL_X7_40⟩
set_option maxRecDepth 20000 in
theorem kL_X7_170 : Cond.fieldLink RX7 170 (TX7 20).1 (TX7 20).2.1 (TX7 20).2.2.1 ∈ TB ∨ ∃ host : String, Cond.fieldLinkNest RX7 170 (TX7 20).1 (TX7 20).2.1 (TX7 20).2.2.1 host ∈ TB := Or.inl (tb_mem 623 (by decide +kernel) (by decide +kernel))
set_option maxRecDepth 20000 in
theorem kF_X7_170 : mFld RX7 170 7 20 := ⟨RX7, TX7, 39, rfl, by decide, inX7, kL_X7_170⟩
set_option maxRecDepth 20000 in
theorem kP_X7_170 : mFldP RX7 170 7 20 .boolean := ⟨RX7, TX7, 39, tyX7, rfl, by decide, inX7, kL_X7_170, tyX7_ok, nmX7, by decide, by decide +kernel⟩
set_option maxRecDepth 20000 in
theorem kL_X7_43 : Cond.fieldLink RX7 43 (TX7 21).1 (TX7 21).2.1 (TX7 21).2.2.1 ∈ TB ∨ ∃ host : String, Cond.fieldLinkNest RX7 43 (TX7 21).1 (TX7 21).2.1 (TX7 21).2.2.1 host ∈ TB := Or.inl (tb_mem 624 (by decide +kernel) (by decide +kernel))
set_option maxRecDepth 20000 in
theorem kF_X7_43 : mFld RX7 43 7 21 := ⟨RX7, TX7, 39, rfl, by decide, inX7, kL_X7_43⟩
set_option maxRecDepth 20000 in
theorem kL_X7_46 : Cond.fieldLink RX7 46 (TX7 22).1 (TX7 22).2.1 (TX7 22).2.2.1 ∈ TB ∨ ∃ host : String, Cond.fieldLinkNest RX7 46 (TX7 22).1 (TX7 22).2.1 (TX7 22).2.2.1 host ∈ TB := Or.inl (tb_mem 625 (by decide +kernel) (by decide +kernel))
set_option maxRecDepth 20000 in
theorem kF_X7_46 : mFld RX7 46 7 22 := ⟨RX7, TX7, 39, rfl, by decide, inX7, kL_X7_46⟩
set_option maxRecDepth 20000 in
theorem kL_X7_49 : Cond.fieldLink RX7 49 (TX7 23).1 (TX7 23).2.1 (TX7 23).2.2.1 ∈ TB ∨ ∃ host : String, Cond.fieldLinkNest RX7 49 (TX7 23).1 (TX7 23).2.1 (TX7 23).2.2.1 host ∈ TB := Or.inl (tb_mem 626 (by decide +kernel) (by decide +kernel))
set_option maxRecDepth 20000 in
theorem kF_X7_49 : mFld RX7 49 7 23 := ⟨RX7, TX7, 39, rfl, by decide, inX7, kL_X7_49⟩
set_option maxRecDepth 20000 in
theorem kL_X7_52 : Cond.fieldLink RX7 52 (TX7 24).1 (TX7 24).2.1 (TX7 24).2.2.1 ∈ TB ∨ ∃ host : String, Cond.fieldLinkNest RX7 52 (TX7 24).1 (TX7 24).2.1 (TX7 24).2.2.1 host ∈ TB := Or.inl (tb_mem 627 (by decide +kernel) (by decide +kernel))
set_option maxRecDepth 20000 in
theorem kF_X7_52 : mFld RX7 52 7 24 := ⟨RX7, TX7, 39, rfl, by decide, inX7, kL_X7_52⟩
set_option maxRecDepth 20000 in
theorem kL_X7_55 : Cond.fieldLink RX7 55 (TX7 25).1 (TX7 25).2.1 (TX7 25).2.2.1 ∈ TB ∨ ∃ host : String, Cond.fieldLinkNest RX7 55 (TX7 25).1 (TX7 25).2.1 (TX7 25).2.2.1 host ∈ TB := Or.inl (tb_mem 628 (by decide +kernel) (by decide +kernel))
set_option maxRecDepth 20000 in
theorem kF_X7_55 : mFld RX7 55 7 25 := ⟨RX7, TX7, 39, rfl, by decide, inX7, kL_X7_55⟩
set_option maxRecDepth 20000 in
theorem kL_X7_236 : Cond.fieldLink RX7 236 (TX7 26).1 (TX7 26).2.1 (TX7 26).2.2.1 ∈ TB ∨ ∃ host : String, Cond.fieldLinkNest RX7 236 (TX7 26).1 (TX7 26).2.1 (TX7 26).2.2.1 host ∈ TB := Or.inl (tb_mem 629 (by decide +kernel) (by decide +kernel))
set_option maxRecDepth 20000 in
theorem kF_X7_236 : mFld RX7 236 7 26 := ⟨RX7, TX7, 39, rfl, by decide, inX7, kL_X7_236⟩
set_option maxRecDepth 20000 in
theorem kP_X7_236 : mFldP RX7 236 7 26 .int := ⟨RX7, TX7, 39, tyX7, rfl, by decide, inX7, kL_X7_236, tyX7_ok, nmX7, by decide, by decide +kernel⟩
set_option maxRecDepth 20000 in
theorem kL_X7_58 : Cond.fieldLink RX7 58 (TX7 27).1 (TX7 27).2.1 (TX7 27).2.2.1 ∈ TB ∨ ∃ host : String, Cond.fieldLinkNest RX7 58 (TX7 27).1 (TX7 27).2.1 (TX7 27).2.2.1 host ∈ TB := Or.inl (tb_mem 630 (by decide +kernel) (by decide +kernel))
set_option maxRecDepth 20000 in
theorem kF_X7_58 : mFld RX7 58 7 27 := ⟨RX7, TX7, 39, rfl, by decide, inX7, kL_X7_58⟩
set_option maxRecDepth 20000 in
theorem kL_X7_61 : Cond.fieldLink RX7 61 (TX7 28).1 (TX7 28).2.1 (TX7 28).2.2.1 ∈ TB ∨ ∃ host : String, Cond.fieldLinkNest RX7 61 (TX7 28).1 (TX7 28).2.1 (TX7 28).2.2.1 host ∈ TB := Or.inl (tb_mem 631 (by decide +kernel) (by decide +kernel))
set_option maxRecDepth 20000 in
theorem kF_X7_61 : mFld RX7 61 7 28 := ⟨RX7, TX7, 39, rfl, by decide, inX7, kL_X7_61⟩
set_option maxRecDepth 20000 in
theorem kL_X7_64 : Cond.fieldLink RX7 64 (TX7 29).1 (TX7 29).2.1 (TX7 29).2.2.1 ∈ TB ∨ ∃ host : String, Cond.fieldLinkNest RX7 64 (TX7 29).1 (TX7 29).2.1 (TX7 29).2.2.1 host ∈ TB := Or.inl (tb_mem 632 (by decide +kernel) (by decide +kernel))
set_option maxRecDepth 20000 in
theorem kF_X7_64 : mFld RX7 64 7 29 := ⟨RX7, TX7, 39, rfl, by decide, inX7, kL_X7_64⟩
set_option maxRecDepth 20000 in
theorem kL_X7_265 : Cond.fieldLink RX7 265 (TX7 30).1 (TX7 30).2.1 (TX7 30).2.2.1 ∈ TB ∨ ∃ host : String, Cond.fieldLinkNest RX7 265 (TX7 30).1 (TX7 30).2.1 (TX7 30).2.2.1 host ∈ TB := Or.inl (tb_mem 633 (by decide +kernel) (by decide +kernel))
set_option maxRecDepth 20000 in
theorem kF_X7_265 : mFld RX7 265 7 30 := ⟨RX7, TX7, 39, rfl, by decide, inX7, kL_X7_265⟩
set_option maxRecDepth 20000 in
theorem kP_X7_265 : mFldP RX7 265 7 30 .int := ⟨RX7, TX7, 39, tyX7, rfl, by decide, inX7, kL_X7_265, tyX7_ok, nmX7, by decide, by decide +kernel⟩
set_option maxRecDepth 20000 in
theorem kL_X7_268 : Cond.fieldLink RX7 268 (TX7 31).1 (TX7 31).2.1 (TX7 31).2.2.1 ∈ TB ∨ ∃ host : String, Cond.fieldLinkNest RX7 268 (TX7 31).1 (TX7 31).2.1 (TX7 31).2.2.1 host ∈ TB := Or.inl (tb_mem 634 (by decide +kernel) (by decide +kernel))
set_option maxRecDepth 20000 in
theorem kF_X7_268 : mFld RX7 268 7 31 := ⟨RX7, TX7, 39, rfl, by decide, inX7, kL_X7_268⟩
set_option maxRecDepth 20000 in
theorem kP_X7_268 : mFldP RX7 268 7 31 .int := ⟨RX7, TX7, 39, tyX7, rfl, by decide, inX7, kL_X7_268, tyX7_ok, nmX7, by decide, by decide +kernel⟩
set_option maxRecDepth 20000 in
theorem kL_X7_67 : Cond.fieldLink RX7 67 (TX7 32).1 (TX7 32).2.1 (TX7 32).2.2.1 ∈ TB ∨ ∃ host : String, Cond.fieldLinkNest RX7 67 (TX7 32).1 (TX7 32).2.1 (TX7 32).2.2.1 host ∈ TB := Or.inl (tb_mem 635 (by decide +kernel) (by decide +kernel))
set_option maxRecDepth 20000 in
theorem kF_X7_67 : mFld RX7 67 7 32 := ⟨RX7, TX7, 39, rfl, by decide, inX7, kL_X7_67⟩
set_option maxRecDepth 20000 in
theorem kL_X7_277 : Cond.fieldLink RX7 277 (TX7 33).1 (TX7 33).2.1 (TX7 33).2.2.1 ∈ TB ∨ ∃ host : String, Cond.fieldLinkNest RX7 277 (TX7 33).1 (TX7 33).2.1 (TX7 33).2.2.1 host ∈ TB := Or.inl (tb_mem 636 (by decide +kernel) (by decide +kernel))
set_option maxRecDepth 20000 in
theorem kF_X7_277 : mFld RX7 277 7 33 := ⟨RX7, TX7, 39, rfl, by decide, inX7, kL_X7_277⟩
set_option maxRecDepth 20000 in
theorem kP_X7_277 : mFldP RX7 277 7 33 .int := ⟨RX7, TX7, 39, tyX7, rfl, by decide, inX7, kL_X7_277, tyX7_ok, nmX7, by decide, by decide +kernel⟩
set_option maxRecDepth 20000 in
theorem kL_X7_280 : Cond.fieldLink RX7 280 (TX7 34).1 (TX7 34).2.1 (TX7 34).2.2.1 ∈ TB ∨ ∃ host : String, Cond.fieldLinkNest RX7 280 (TX7 34).1 (TX7 34).2.1 (TX7 34).2.2.1 host ∈ TB := Or.inl (tb_mem 637 (by decide +kernel) (by decide +kernel))
set_option maxRecDepth 20000 in
theorem kF_X7_280 : mFld RX7 280 7 34 := ⟨RX7, TX7, 39, rfl, by decide, inX7, kL_X7_280⟩
set_option maxRecDepth 20000 in
theorem kP_X7_280 : mFldP RX7 280 7 34 .int := ⟨RX7, TX7, 39, tyX7, rfl, by decide, inX7, kL_X7_280, tyX7_ok, nmX7, by decide, by decide +kernel⟩
set_option maxRecDepth 20000 in
theorem kL_X7_70 : Cond.fieldLink RX7 70 (TX7 35).1 (TX7 35).2.1 (TX7 35).2.2.1 ∈ TB ∨ ∃ host : String, Cond.fieldLinkNest RX7 70 (TX7 35).1 (TX7 35).2.1 (TX7 35).2.2.1 host ∈ TB := Or.inl (tb_mem 638 (by decide +kernel) (by decide +kernel))
set_option maxRecDepth 20000 in
theorem kF_X7_70 : mFld RX7 70 7 35 := ⟨RX7, TX7, 39, rfl, by decide, inX7, kL_X7_70⟩
set_option maxRecDepth 20000 in
theorem kL_X7_73 : Cond.fieldLink RX7 73 (TX7 36).1 (TX7 36).2.1 (TX7 36).2.2.1 ∈ TB ∨ ∃ host : String, Cond.fieldLinkNest RX7 73 (TX7 36).1 (TX7 36).2.1 (TX7 36).2.2.1 host ∈ TB := Or.inl (tb_mem 639 (by decide +kernel) (by decide +kernel))
set_option maxRecDepth 20000 in
theorem kF_X7_73 : mFld RX7 73 7 36 := ⟨RX7, TX7, 39, rfl, by decide, inX7, kL_X7_73⟩
set_option maxRecDepth 20000 in
theorem kL_X7_299 : Cond.fieldLink RX7 299 (TX7 37).1 (TX7 37).2.1 (TX7 37).2.2.1 ∈ TB ∨ ∃ host : String, Cond.fieldLinkNest RX7 299 (TX7 37).1 (TX7 37).2.1 (TX7 37).2.2.1 host ∈ TB := Or.inl (tb_mem 640 (by decide +kernel) (by decide +kernel))
set_option maxRecDepth 20000 in
theorem kF_X7_299 : mFld RX7 299 7 37 := ⟨RX7, TX7, 39, rfl, by decide, inX7, kL_X7_299⟩
set_option maxRecDepth 20000 in
theorem kP_X7_299 : mFldP RX7 299 7 37 .int := ⟨RX7, TX7, 39, tyX7, rfl, by decide, inX7, kL_X7_299, tyX7_ok, nmX7, by decide, by decide +kernel⟩
set_option maxRecDepth 20000 in
theorem kL_X7_296 : Cond.fieldLink RX7 296 (TX7 38).1 (TX7 38).2.1 (TX7 38).2.2.1 ∈ TB ∨ ∃ host : String, Cond.fieldLinkNest RX7 296 (TX7 38).1 (TX7 38).2.1 (TX7 38).2.2.1 host ∈ TB := Or.inl (tb_mem 641 (by decide +kernel) (by decide +kernel))
set_option maxRecDepth 20000 in
theorem kF_X7_296 : mFld RX7 296 7 38 := ⟨RX7, TX7, 39, rfl, by decide, inX7, kL_X7_296⟩
set_option maxRecDepth 20000 in
theorem kP_X7_296 : mFldP RX7 296 7 38 .boolean := ⟨RX7, TX7, 39, tyX7, rfl, by decide, inX7, kL_X7_296, tyX7_ok, nmX7, by decide, by decide +kernel⟩
set_option maxRecDepth 20000 in
theorem kM_L_9 : Cond.methodLink RL 9 yX6_init ∈ TB := tb_mem 78 (by decide +kernel) (by decide +kernel)
set_option maxRecDepth 20000 in
theorem kM_X6_17 : Cond.methodLinkNest RX6 17 yX0_init "SwapCalls" ∈ TB := tb_mem 88 (by decide +kernel) (by decide +kernel)
set_option maxRecDepth 20000 in
theorem kM_X6_28 : Cond.methodLinkNest RX6 28 yX4_init "SwapCalls" ∈ TB := tb_mem 116 (by decide +kernel) (by decide +kernel)
set_option maxRecDepth 20000 in
theorem kM_X6_41 : Cond.methodLinkNest RX6 41 yX2_init "SwapCalls" ∈ TB := tb_mem 146 (by decide +kernel) (by decide +kernel)
set_option maxRecDepth 20000 in
theorem kM_X2_11 : Cond.methodLinkNest RX2 11 yX4_init "SwapCalls" ∈ TB := tb_mem 151 (by decide +kernel) (by decide +kernel)
set_option maxRecDepth 20000 in
theorem kM_X6_51 : Cond.methodLinkNest RX6 51 yX3_init "SwapCalls" ∈ TB := tb_mem 178 (by decide +kernel) (by decide +kernel)
set_option maxRecDepth 20000 in
theorem kM_X6_56 : Cond.methodLinkNest RX6 56 yX5_init "SwapCalls" ∈ TB := tb_mem 203 (by decide +kernel) (by decide +kernel)
set_option maxRecDepth 20000 in
theorem kM_X6_57 : Cond.methodLinkNest RX6 57 yX1_init "SwapCalls" ∈ TB := tb_mem 263 (by decide +kernel) (by decide +kernel)
set_option maxRecDepth 20000 in
theorem kM_X1_17 : Cond.methodLinkNest RX1 17 yX4_init "SwapCalls" ∈ TB := tb_mem 268 (by decide +kernel) (by decide +kernel)
set_option maxRecDepth 20000 in
theorem kM_L_13 : Cond.methodLink RL 13 yX6_say ∈ TB := tb_mem 307 (by decide +kernel) (by decide +kernel)
set_option maxRecDepth 20000 in
theorem kM_X6_58 : Cond.methodLink RX6 58 yX6_within ∈ TB := tb_mem 311 (by decide +kernel) (by decide +kernel)
set_option maxRecDepth 20000 in
theorem kM_X6_66 : Cond.methodLink RX6 66 yX5_append ∈ TB := tb_mem 314 (by decide +kernel) (by decide +kernel)
set_option maxRecDepth 20000 in
theorem kM_X5_49 : Cond.methodLink RX5 49 yX5_readText ∈ TB := tb_mem 318 (by decide +kernel) (by decide +kernel)
set_option maxRecDepth 20000 in
theorem kM_X5_52 : Cond.methodLink RX5 52 yX5_readStatement ∈ TB := tb_mem 322 (by decide +kernel) (by decide +kernel)
set_option maxRecDepth 20000 in
theorem kM_X5_56 : Cond.methodLink RX5 56 yX5_kindOf ∈ TB := tb_mem 326 (by decide +kernel) (by decide +kernel)
set_option maxRecDepth 20000 in
theorem kM_X5_60 : Cond.methodLink RX5 60 yX5_readCallee ∈ TB := tb_mem 329 (by decide +kernel) (by decide +kernel)
set_option maxRecDepth 20000 in
theorem kM_X5_63 : Cond.methodLink RX5 63 yX5_readIndex ∈ TB := tb_mem 333 (by decide +kernel) (by decide +kernel)
set_option maxRecDepth 20000 in
theorem kM_X5_77 : Cond.methodLink RX5 77 yX5_isFigure ∈ TB := tb_mem 337 (by decide +kernel) (by decide +kernel)
set_option maxRecDepth 20000 in
theorem kM_X5_67 : Cond.methodLink RX5 67 yX5_readLetter ∈ TB := tb_mem 340 (by decide +kernel) (by decide +kernel)
set_option maxRecDepth 20000 in
theorem kM_X5_74 : Cond.methodLink RX5 74 yX5_isLetter ∈ TB := tb_mem 344 (by decide +kernel) (by decide +kernel)
set_option maxRecDepth 20000 in
theorem kM_X5_70 : Cond.methodLink RX5 70 yX5_readTerm ∈ TB := tb_mem 347 (by decide +kernel) (by decide +kernel)
set_option maxRecDepth 20000 in
theorem kM_X5_80 : Cond.methodLink RX5 80 yX5_readLeaf ∈ TB := tb_mem 351 (by decide +kernel) (by decide +kernel)
set_option maxRecDepth 20000 in
theorem kM_X5_83 : Cond.methodLink RX5 83 yX5_addLeaf ∈ TB := tb_mem 355 (by decide +kernel) (by decide +kernel)
set_option maxRecDepth 20000 in
theorem kM_X6_70 : Cond.methodLink RX6 70 yX0_forget ∈ TB := tb_mem 359 (by decide +kernel) (by decide +kernel)
set_option maxRecDepth 20000 in
theorem kM_L_18 : Cond.methodLink RL 18 yX6_wipe ∈ TB := tb_mem 363 (by decide +kernel) (by decide +kernel)
set_option maxRecDepth 20000 in
theorem kM_X6_73 : Cond.methodLink RX6 73 yX5_empty ∈ TB := tb_mem 367 (by decide +kernel) (by decide +kernel)
set_option maxRecDepth 20000 in
theorem kM_L_23 : Cond.methodLink RL 23 yX6_fault ∈ TB := tb_mem 371 (by decide +kernel) (by decide +kernel)
set_option maxRecDepth 20000 in
theorem kM_L_27 : Cond.methodLink RL 27 yX6_set ∈ TB := tb_mem 375 (by decide +kernel) (by decide +kernel)
set_option maxRecDepth 20000 in
theorem kM_L_31 : Cond.methodLink RL 31 yX6_get ∈ TB := tb_mem 379 (by decide +kernel) (by decide +kernel)
set_option maxRecDepth 20000 in
theorem kM_L_35 : Cond.methodLink RL 35 yX6_effect ∈ TB := tb_mem 383 (by decide +kernel) (by decide +kernel)
set_option maxRecDepth 20000 in
theorem kM_X6_79 : Cond.methodLink RX6 79 yX0_find ∈ TB := tb_mem 387 (by decide +kernel) (by decide +kernel)
set_option maxRecDepth 20000 in
theorem kM_X0_32 : Cond.methodLink RX0 32 yX0_findKnown ∈ TB := tb_mem 391 (by decide +kernel) (by decide +kernel)
set_option maxRecDepth 20000 in
theorem kM_X0_65 : Cond.methodLink RX0 65 yX5_calleeBits ∈ TB := tb_mem 395 (by decide +kernel) (by decide +kernel)
set_option maxRecDepth 20000 in
theorem kM_X0_69 : Cond.methodLink RX0 69 yX0_knowsBits ∈ TB := tb_mem 399 (by decide +kernel) (by decide +kernel)
set_option maxRecDepth 20000 in
theorem kM_X0_36 : Cond.methodLink RX0 36 yX0_startWithOwn ∈ TB := tb_mem 403 (by decide +kernel) (by decide +kernel)
set_option maxRecDepth 20000 in
theorem kM_X0_79 : Cond.methodLinkNest RX0 79 yX6_placeOf "SwapCalls" ∈ TB := tb_mem 407 (by decide +kernel) (by decide +kernel)
set_option maxRecDepth 20000 in
theorem kM_X0_40 : Cond.methodLink RX0 40 yX0_goRound ∈ TB := tb_mem 410 (by decide +kernel) (by decide +kernel)
set_option maxRecDepth 20000 in
theorem kM_X0_95 : Cond.methodLink RX0 95 yX0_takeFromCallees ∈ TB := tb_mem 414 (by decide +kernel) (by decide +kernel)
set_option maxRecDepth 20000 in
theorem kM_X0_102 : Cond.methodLink RX0 102 yX0_take ∈ TB := tb_mem 418 (by decide +kernel) (by decide +kernel)
set_option maxRecDepth 20000 in
theorem kM_X6_87 : Cond.methodLink RX6 87 yX0_part ∈ TB := tb_mem 422 (by decide +kernel) (by decide +kernel)
set_option maxRecDepth 20000 in
theorem kM_L_40 : Cond.methodLink RL 40 yX6_causes ∈ TB := tb_mem 426 (by decide +kernel) (by decide +kernel)
set_option maxRecDepth 20000 in
theorem kM_X6_91 : Cond.methodLink RX6 91 yX0_between ∈ TB := tb_mem 430 (by decide +kernel) (by decide +kernel)
set_option maxRecDepth 20000 in
theorem kM_L_45 : Cond.methodLink RL 45 yX6_call ∈ TB := tb_mem 434 (by decide +kernel) (by decide +kernel)
set_option maxRecDepth 20000 in
theorem kM_X6_98 : Cond.methodLink RX6 98 yX4_append ∈ TB := tb_mem 438 (by decide +kernel) (by decide +kernel)
set_option maxRecDepth 20000 in
theorem kM_L_49 : Cond.methodLink RL 49 yX6_drop ∈ TB := tb_mem 442 (by decide +kernel) (by decide +kernel)
set_option maxRecDepth 20000 in
theorem kM_X6_101 : Cond.methodLink RX6 101 yX4_remove ∈ TB := tb_mem 446 (by decide +kernel) (by decide +kernel)
set_option maxRecDepth 20000 in
theorem kM_L_53 : Cond.methodLink RL 53 yX6_swap ∈ TB := tb_mem 450 (by decide +kernel) (by decide +kernel)
set_option maxRecDepth 20000 in
theorem kM_X6_107 : Cond.methodLink RX6 107 yX0_free ∈ TB := tb_mem 454 (by decide +kernel) (by decide +kernel)
set_option maxRecDepth 20000 in
theorem kM_X0_56 : Cond.methodLink RX0 56 yX0_between ∈ TB := tb_mem 458 (by decide +kernel) (by decide +kernel)
set_option maxRecDepth 20000 in
theorem kM_X6_111 : Cond.methodLink RX6 111 yX4_exchangeWithNext ∈ TB := tb_mem 459 (by decide +kernel) (by decide +kernel)
set_option maxRecDepth 20000 in
theorem kM_L_57 : Cond.methodLink RL 57 yX6_told ∈ TB := tb_mem 463 (by decide +kernel) (by decide +kernel)
set_option maxRecDepth 20000 in
theorem kM_X6_117 : Cond.methodLink RX6 117 yX6_layProgram ∈ TB := tb_mem 467 (by decide +kernel) (by decide +kernel)
set_option maxRecDepth 20000 in
theorem kM_X6_198 : Cond.methodLink RX6 198 yX0_knowsAll ∈ TB := tb_mem 471 (by decide +kernel) (by decide +kernel)
set_option maxRecDepth 20000 in
theorem kM_X6_202 : Cond.methodLink RX6 202 yX2_lay ∈ TB := tb_mem 475 (by decide +kernel) (by decide +kernel)
set_option maxRecDepth 20000 in
theorem kM_X2_35 : Cond.methodLink RX2 35 yX4_copyFrom ∈ TB := tb_mem 479 (by decide +kernel) (by decide +kernel)
set_option maxRecDepth 20000 in
theorem kA_X4_22 : Cond.methodLink RX4 22 arraycopyName ∈ TB ∧ Cond.native arraycopyName ∈ TB ∧ Cond.static arraycopyName ∈ TB ∧ Cond.initialized "java/lang/System" ∈ TB := ⟨tb_mem 483 (by decide +kernel) (by decide +kernel), tb_mem 485 (by decide +kernel) (by decide +kernel), tb_mem 484 (by decide +kernel) (by decide +kernel), tb_mem 74 (by decide +kernel) (by decide +kernel)⟩
set_option maxRecDepth 20000 in
theorem kM_X2_42 : Cond.methodLink RX2 42 yX0_free ∈ TB := tb_mem 486 (by decide +kernel) (by decide +kernel)
set_option maxRecDepth 20000 in
theorem kM_X2_48 : Cond.methodLink RX2 48 yJ9_max_7cf53 ∈ TB := tb_mem 487 (by decide +kernel) (by decide +kernel)
set_option maxRecDepth 20000 in
theorem kM_X2_54 : Cond.methodLink RX2 54 yX2_position ∈ TB := tb_mem 490 (by decide +kernel) (by decide +kernel)
set_option maxRecDepth 20000 in
theorem kM_X2_75 : Cond.methodLink RX2 75 yX2_goesAhead ∈ TB := tb_mem 494 (by decide +kernel) (by decide +kernel)
set_option maxRecDepth 20000 in
theorem kM_L_61 : Cond.methodLink RL 61 yX6_stages ∈ TB := tb_mem 498 (by decide +kernel) (by decide +kernel)
set_option maxRecDepth 20000 in
theorem kM_X6_134 : Cond.methodLink RX6 134 yX2_mostOfOneStage ∈ TB := tb_mem 502 (by decide +kernel) (by decide +kernel)
set_option maxRecDepth 20000 in
theorem kM_X2_57 : Cond.methodLink RX2 57 yX2_sizeOfStage ∈ TB := tb_mem 506 (by decide +kernel) (by decide +kernel)
set_option maxRecDepth 20000 in
theorem kM_X6_138 : Cond.methodLink RX6 138 yX2_firstFullestStage ∈ TB := tb_mem 510 (by decide +kernel) (by decide +kernel)
set_option maxRecDepth 20000 in
theorem kM_X2_61 : Cond.methodLink RX2 61 yX2_mostOfOneStage ∈ TB := tb_mem 514 (by decide +kernel) (by decide +kernel)
set_option maxRecDepth 20000 in
theorem kM_X6_141 : Cond.methodLink RX6 141 yX6_nearestSingle ∈ TB := tb_mem 515 (by decide +kernel) (by decide +kernel)
set_option maxRecDepth 20000 in
theorem kM_X6_148 : Cond.methodLink RX6 148 yX2_isNormal ∈ TB := tb_mem 518 (by decide +kernel) (by decide +kernel)
set_option maxRecDepth 20000 in
theorem kM_X6_152 : Cond.methodLink RX6 152 yX6_compareWithImage ∈ TB := tb_mem 522 (by decide +kernel) (by decide +kernel)
set_option maxRecDepth 20000 in
theorem kM_X6_215 : Cond.methodLink RX6 215 yX2_sameNormalForm ∈ TB := tb_mem 526 (by decide +kernel) (by decide +kernel)
set_option maxRecDepth 20000 in
theorem kM_X2_65 : Cond.methodLink RX2 65 yX2_arrange ∈ TB := tb_mem 530 (by decide +kernel) (by decide +kernel)
set_option maxRecDepth 20000 in
theorem kM_L_65 : Cond.methodLink RL 65 yX6_run ∈ TB := tb_mem 534 (by decide +kernel) (by decide +kernel)
set_option maxRecDepth 20000 in
theorem kM_X6_156 : Cond.methodLink RX6 156 yX6_perform ∈ TB := tb_mem 538 (by decide +kernel) (by decide +kernel)
set_option maxRecDepth 20000 in
theorem kM_X6_206 : Cond.methodLink RX6 206 yX2_arrange ∈ TB := tb_mem 542 (by decide +kernel) (by decide +kernel)
set_option maxRecDepth 20000 in
theorem kM_X6_212 : Cond.methodLink RX6 212 yX3_perform ∈ TB := tb_mem 543 (by decide +kernel) (by decide +kernel)
set_option maxRecDepth 20000 in
theorem kA_X3_28 : Cond.methodLink RX3 28 arraycopyName ∈ TB ∧ Cond.native arraycopyName ∈ TB ∧ Cond.static arraycopyName ∈ TB ∧ Cond.initialized "java/lang/System" ∈ TB := ⟨tb_mem 547 (by decide +kernel) (by decide +kernel), tb_mem 485 (by decide +kernel) (by decide +kernel), tb_mem 484 (by decide +kernel) (by decide +kernel), tb_mem 74 (by decide +kernel) (by decide +kernel)⟩
set_option maxRecDepth 20000 in
theorem kM_X3_45 : Cond.methodLink RX3 45 yX3_doRoutine ∈ TB := tb_mem 548 (by decide +kernel) (by decide +kernel)
set_option maxRecDepth 20000 in
theorem kM_X3_57 : Cond.methodLinkNest RX3 57 yX6_placeOf "SwapCalls" ∈ TB := tb_mem 552 (by decide +kernel) (by decide +kernel)
set_option maxRecDepth 20000 in
theorem kM_X3_67 : Cond.methodLink RX3 67 yX3_doSimple ∈ TB := tb_mem 553 (by decide +kernel) (by decide +kernel)
set_option maxRecDepth 20000 in
theorem kM_X3_71 : Cond.methodLink RX3 71 yX3_sumOfLeaves ∈ TB := tb_mem 557 (by decide +kernel) (by decide +kernel)
set_option maxRecDepth 20000 in
theorem kM_X3_75 : Cond.methodLink RX3 75 yX5_leafStart ∈ TB := tb_mem 561 (by decide +kernel) (by decide +kernel)
set_option maxRecDepth 20000 in
theorem kM_L_69 : Cond.methodLink RL 69 yX6_thrower ∈ TB := tb_mem 565 (by decide +kernel) (by decide +kernel)
set_option maxRecDepth 20000 in
theorem kM_L_73 : Cond.methodLink RL 73 yX6_commit ∈ TB := tb_mem 569 (by decide +kernel) (by decide +kernel)
set_option maxRecDepth 20000 in
theorem kA_X6_172 : Cond.methodLink RX6 172 arraycopyName ∈ TB ∧ Cond.native arraycopyName ∈ TB ∧ Cond.static arraycopyName ∈ TB ∧ Cond.initialized "java/lang/System" ∈ TB := ⟨tb_mem 573 (by decide +kernel) (by decide +kernel), tb_mem 485 (by decide +kernel) (by decide +kernel), tb_mem 484 (by decide +kernel) (by decide +kernel), tb_mem 74 (by decide +kernel) (by decide +kernel)⟩
set_option maxRecDepth 20000 in
theorem kM_L_78 : Cond.methodLink RL 78 yX6_image ∈ TB := tb_mem 574 (by decide +kernel) (by decide +kernel)
set_option maxRecDepth 20000 in
theorem kM_X6_178 : Cond.methodLink RX6 178 yX1_keep ∈ TB := tb_mem 578 (by decide +kernel) (by decide +kernel)
set_option maxRecDepth 20000 in
theorem kA_X1_26 : Cond.methodLink RX1 26 arraycopyName ∈ TB ∧ Cond.native arraycopyName ∈ TB ∧ Cond.static arraycopyName ∈ TB ∧ Cond.initialized "java/lang/System" ∈ TB := ⟨tb_mem 582 (by decide +kernel) (by decide +kernel), tb_mem 485 (by decide +kernel) (by decide +kernel), tb_mem 484 (by decide +kernel) (by decide +kernel), tb_mem 74 (by decide +kernel) (by decide +kernel)⟩
set_option maxRecDepth 20000 in
theorem kM_X1_32 : Cond.methodLink RX1 32 yX4_copyFrom ∈ TB := tb_mem 583 (by decide +kernel) (by decide +kernel)
set_option maxRecDepth 20000 in
theorem kM_L_82 : Cond.methodLink RL 82 yX6_restore ∈ TB := tb_mem 584 (by decide +kernel) (by decide +kernel)
set_option maxRecDepth 20000 in
theorem kM_X6_183 : Cond.methodLink RX6 183 yX4_copyFrom ∈ TB := tb_mem 588 (by decide +kernel) (by decide +kernel)
set_option maxRecDepth 20000 in
theorem kM_L_86 : Cond.methodLink RL 86 yX6_count ∈ TB := tb_mem 589 (by decide +kernel) (by decide +kernel)
set_option maxRecDepth 20000 in
theorem kM_X6_187 : Cond.methodLink RX6 187 yJ9_floorMod_7cf53 ∈ TB := tb_mem 593 (by decide +kernel) (by decide +kernel)
set_option maxRecDepth 20000 in
theorem kM_X6_195 : Cond.methodLink RX6 195 yX5_calleeBits ∈ TB := tb_mem 596 (by decide +kernel) (by decide +kernel)
set_option maxRecDepth 20000 in
theorem kM_L_12 : Cond.methodLink RL 12 yX7_init ∈ TB := tb_mem 599 (by decide +kernel) (by decide +kernel)
set_option maxRecDepth 20000 in
theorem kM_L_17 : Cond.methodLink RL 17 yX7_say ∈ TB := tb_mem 721 (by decide +kernel) (by decide +kernel)
set_option maxRecDepth 20000 in
theorem kM_X7_87 : Cond.methodLink RX7 87 yX7_isRoutine ∈ TB := tb_mem 725 (by decide +kernel) (by decide +kernel)
set_option maxRecDepth 20000 in
theorem kM_X7_79 : Cond.methodLink RX7 79 yX7_in ∈ TB := tb_mem 729 (by decide +kernel) (by decide +kernel)
set_option maxRecDepth 20000 in
theorem kM_L_22 : Cond.methodLink RL 22 yX7_wipe ∈ TB := tb_mem 734 (by decide +kernel) (by decide +kernel)
set_option maxRecDepth 20000 in
theorem kM_L_26 : Cond.methodLink RL 26 yX7_fault ∈ TB := tb_mem 738 (by decide +kernel) (by decide +kernel)
set_option maxRecDepth 20000 in
theorem kM_X7_159 : Cond.methodLink RX7 159 yX7_faultOf ∈ TB := tb_mem 742 (by decide +kernel) (by decide +kernel)
set_option maxRecDepth 20000 in
theorem kM_X7_149 : Cond.methodLink RX7 149 yX7_begin ∈ TB := tb_mem 746 (by decide +kernel) (by decide +kernel)
set_option maxRecDepth 20000 in
theorem kM_X7_153 : Cond.methodLink RX7 153 yX7_isMore ∈ TB := tb_mem 750 (by decide +kernel) (by decide +kernel)
set_option maxRecDepth 20000 in
theorem kM_X7_156 : Cond.methodLink RX7 156 yX7_statement ∈ TB := tb_mem 754 (by decide +kernel) (by decide +kernel)
set_option maxRecDepth 20000 in
theorem kM_X7_101 : Cond.methodLink RX7 101 yX7_here ∈ TB := tb_mem 758 (by decide +kernel) (by decide +kernel)
set_option maxRecDepth 20000 in
theorem kM_X7_136 : Cond.methodLink RX7 136 yX7_callHere ∈ TB := tb_mem 762 (by decide +kernel) (by decide +kernel)
set_option maxRecDepth 20000 in
theorem kM_X7_108 : Cond.methodLink RX7 108 yX7_index ∈ TB := tb_mem 766 (by decide +kernel) (by decide +kernel)
set_option maxRecDepth 20000 in
theorem kM_X7_105 : Cond.methodLink RX7 105 yX7_isFigure ∈ TB := tb_mem 770 (by decide +kernel) (by decide +kernel)
set_option maxRecDepth 20000 in
theorem kM_X7_139 : Cond.methodLink RX7 139 yX7_numberHere ∈ TB := tb_mem 773 (by decide +kernel) (by decide +kernel)
set_option maxRecDepth 20000 in
theorem kM_X7_118 : Cond.methodLink RX7 118 yX7_isLetter ∈ TB := tb_mem 777 (by decide +kernel) (by decide +kernel)
set_option maxRecDepth 20000 in
theorem kM_X7_143 : Cond.methodLink RX7 143 yX7_cellHere ∈ TB := tb_mem 780 (by decide +kernel) (by decide +kernel)
set_option maxRecDepth 20000 in
theorem kM_X7_146 : Cond.methodLink RX7 146 yX7_term ∈ TB := tb_mem 784 (by decide +kernel) (by decide +kernel)
set_option maxRecDepth 20000 in
theorem kM_X7_121 : Cond.methodLink RX7 121 yX7_leaf ∈ TB := tb_mem 788 (by decide +kernel) (by decide +kernel)
set_option maxRecDepth 20000 in
theorem kM_L_30 : Cond.methodLink RL 30 yX7_set ∈ TB := tb_mem 792 (by decide +kernel) (by decide +kernel)
set_option maxRecDepth 20000 in
theorem kM_X7_162 : Cond.methodLink RX7 162 yX7_isPlace ∈ TB := tb_mem 796 (by decide +kernel) (by decide +kernel)
set_option maxRecDepth 20000 in
theorem kM_L_34 : Cond.methodLink RL 34 yX7_get ∈ TB := tb_mem 801 (by decide +kernel) (by decide +kernel)
set_option maxRecDepth 20000 in
theorem kM_L_39 : Cond.methodLink RL 39 yX7_effect ∈ TB := tb_mem 805 (by decide +kernel) (by decide +kernel)
set_option maxRecDepth 20000 in
theorem kM_X7_189 : Cond.methodLink RX7 189 yX7_isGiven ∈ TB := tb_mem 809 (by decide +kernel) (by decide +kernel)
set_option maxRecDepth 20000 in
theorem kM_X7_194 : Cond.methodLink RX7 194 yX7_findEffects ∈ TB := tb_mem 814 (by decide +kernel) (by decide +kernel)
set_option maxRecDepth 20000 in
theorem kM_X7_182 : Cond.methodLink RX7 182 yX7_findReaches ∈ TB := tb_mem 818 (by decide +kernel) (by decide +kernel)
set_option maxRecDepth 20000 in
theorem kM_X7_167 : Cond.methodLink RX7 167 yX7_callsOf ∈ TB := tb_mem 822 (by decide +kernel) (by decide +kernel)
set_option maxRecDepth 20000 in
theorem kM_X7_185 : Cond.methodLink RX7 185 yX7_addEffects ∈ TB := tb_mem 826 (by decide +kernel) (by decide +kernel)
set_option maxRecDepth 20000 in
theorem kM_X7_178 : Cond.methodLink RX7 178 yX7_takeIn ∈ TB := tb_mem 830 (by decide +kernel) (by decide +kernel)
set_option maxRecDepth 20000 in
theorem kM_X7_174 : Cond.methodLink RX7 174 yX7_more ∈ TB := tb_mem 834 (by decide +kernel) (by decide +kernel)
set_option maxRecDepth 20000 in
theorem kM_X7_197 : Cond.methodLink RX7 197 yX7_isKnown ∈ TB := tb_mem 838 (by decide +kernel) (by decide +kernel)
set_option maxRecDepth 20000 in
theorem kM_L_44 : Cond.methodLink RL 44 yX7_causes ∈ TB := tb_mem 842 (by decide +kernel) (by decide +kernel)
set_option maxRecDepth 20000 in
theorem kM_X7_200 : Cond.methodLink RX7 200 yX7_causesOf ∈ TB := tb_mem 846 (by decide +kernel) (by decide +kernel)
set_option maxRecDepth 20000 in
theorem kM_L_48 : Cond.methodLink RL 48 yX7_call ∈ TB := tb_mem 850 (by decide +kernel) (by decide +kernel)
set_option maxRecDepth 20000 in
theorem kM_L_52 : Cond.methodLink RL 52 yX7_drop ∈ TB := tb_mem 854 (by decide +kernel) (by decide +kernel)
set_option maxRecDepth 20000 in
theorem kM_X7_206 : Cond.methodLink RX7 206 yX7_isCall ∈ TB := tb_mem 858 (by decide +kernel) (by decide +kernel)
set_option maxRecDepth 20000 in
theorem kM_L_56 : Cond.methodLink RL 56 yX7_swap ∈ TB := tb_mem 862 (by decide +kernel) (by decide +kernel)
set_option maxRecDepth 20000 in
theorem kM_X7_209 : Cond.methodLink RX7 209 yX7_effectOf ∈ TB := tb_mem 866 (by decide +kernel) (by decide +kernel)
set_option maxRecDepth 20000 in
theorem kM_X7_212 : Cond.methodLink RX7 212 yX7_turn ∈ TB := tb_mem 870 (by decide +kernel) (by decide +kernel)
set_option maxRecDepth 20000 in
theorem kM_L_60 : Cond.methodLink RL 60 yX7_told ∈ TB := tb_mem 873 (by decide +kernel) (by decide +kernel)
set_option maxRecDepth 20000 in
theorem kM_X7_226 : Cond.methodLink RX7 226 yX7_isFound ∈ TB := tb_mem 877 (by decide +kernel) (by decide +kernel)
set_option maxRecDepth 20000 in
theorem kM_X7_220 : Cond.methodLink RX7 220 yX7_isAllKnown ∈ TB := tb_mem 881 (by decide +kernel) (by decide +kernel)
set_option maxRecDepth 20000 in
theorem kM_X7_223 : Cond.methodLink RX7 223 yX7_findStages ∈ TB := tb_mem 885 (by decide +kernel) (by decide +kernel)
set_option maxRecDepth 20000 in
theorem kM_X7_216 : Cond.methodLink RX7 216 yX7_isAhead ∈ TB := tb_mem 889 (by decide +kernel) (by decide +kernel)
set_option maxRecDepth 20000 in
theorem kM_L_64 : Cond.methodLink RL 64 yX7_stages ∈ TB := tb_mem 893 (by decide +kernel) (by decide +kernel)
set_option maxRecDepth 20000 in
theorem kM_X7_229 : Cond.methodLink RX7 229 yX7_stageMany ∈ TB := tb_mem 898 (by decide +kernel) (by decide +kernel)
set_option maxRecDepth 20000 in
theorem kM_X7_250 : Cond.methodLink RX7 250 yX7_widest ∈ TB := tb_mem 902 (by decide +kernel) (by decide +kernel)
set_option maxRecDepth 20000 in
theorem kM_X7_232 : Cond.methodLink RX7 232 yX7_callsAt ∈ TB := tb_mem 906 (by decide +kernel) (by decide +kernel)
set_option maxRecDepth 20000 in
theorem kM_X7_253 : Cond.methodLink RX7 253 yX7_single ∈ TB := tb_mem 910 (by decide +kernel) (by decide +kernel)
set_option maxRecDepth 20000 in
theorem kM_X7_256 : Cond.methodLink RX7 256 yX7_freePairs ∈ TB := tb_mem 914 (by decide +kernel) (by decide +kernel)
set_option maxRecDepth 20000 in
theorem kM_X7_259 : Cond.methodLink RX7 259 yX7_isNormal ∈ TB := tb_mem 918 (by decide +kernel) (by decide +kernel)
set_option maxRecDepth 20000 in
theorem kM_X7_262 : Cond.methodLink RX7 262 yX7_compared ∈ TB := tb_mem 922 (by decide +kernel) (by decide +kernel)
set_option maxRecDepth 20000 in
theorem kM_X7_239 : Cond.methodLink RX7 239 yX7_layNormal ∈ TB := tb_mem 926 (by decide +kernel) (by decide +kernel)
set_option maxRecDepth 20000 in
theorem kM_X7_242 : Cond.methodLink RX7 242 yX7_hold ∈ TB := tb_mem 930 (by decide +kernel) (by decide +kernel)
set_option maxRecDepth 20000 in
theorem kM_X7_245 : Cond.methodLink RX7 245 yX7_giveBack ∈ TB := tb_mem 934 (by decide +kernel) (by decide +kernel)
set_option maxRecDepth 20000 in
theorem kM_L_68 : Cond.methodLink RL 68 yX7_run ∈ TB := tb_mem 938 (by decide +kernel) (by decide +kernel)
set_option maxRecDepth 20000 in
theorem kM_X7_293 : Cond.methodLink RX7 293 yX7_isRun ∈ TB := tb_mem 944 (by decide +kernel) (by decide +kernel)
set_option maxRecDepth 20000 in
theorem kM_X7_283 : Cond.methodLink RX7 283 yX7_kth ∈ TB := tb_mem 948 (by decide +kernel) (by decide +kernel)
set_option maxRecDepth 20000 in
theorem kM_X7_286 : Cond.methodLink RX7 286 yX7_doCall ∈ TB := tb_mem 952 (by decide +kernel) (by decide +kernel)
set_option maxRecDepth 20000 in
theorem kM_X7_271 : Cond.methodLink RX7 271 yX7_push ∈ TB := tb_mem 956 (by decide +kernel) (by decide +kernel)
set_option maxRecDepth 20000 in
theorem kM_X7_274 : Cond.methodLink RX7 274 yX7_isThrowing ∈ TB := tb_mem 960 (by decide +kernel) (by decide +kernel)
set_option maxRecDepth 20000 in
theorem kM_L_72 : Cond.methodLink RL 72 yX7_thrower ∈ TB := tb_mem 964 (by decide +kernel) (by decide +kernel)
set_option maxRecDepth 20000 in
theorem kM_L_77 : Cond.methodLink RL 77 yX7_commit ∈ TB := tb_mem 968 (by decide +kernel) (by decide +kernel)
set_option maxRecDepth 20000 in
theorem kM_L_81 : Cond.methodLink RL 81 yX7_image ∈ TB := tb_mem 972 (by decide +kernel) (by decide +kernel)
set_option maxRecDepth 20000 in
theorem kM_X7_305 : Cond.methodLink RX7 305 yX7_passAll ∈ TB := tb_mem 976 (by decide +kernel) (by decide +kernel)
set_option maxRecDepth 20000 in
theorem kM_X7_302 : Cond.methodLink RX7 302 yX7_passRow ∈ TB := tb_mem 980 (by decide +kernel) (by decide +kernel)
set_option maxRecDepth 20000 in
theorem kM_L_85 : Cond.methodLink RL 85 yX7_restore ∈ TB := tb_mem 984 (by decide +kernel) (by decide +kernel)
set_option maxRecDepth 20000 in
theorem kM_L_89 : Cond.methodLink RL 89 yX7_count ∈ TB := tb_mem 988 (by decide +kernel) (by decide +kernel)
set_option maxRecDepth 20000 in
theorem kM_X7_312 : Cond.methodLink RX7 312 yX7_statementsOf ∈ TB := tb_mem 994 (by decide +kernel) (by decide +kernel)
set_option maxRecDepth 20000 in
theorem kC_X6_say : mCal yX6_say cX6_say 3 (some .int) 2 := ⟨tb_mem 310 (by decide +kernel) (by decide +kernel), tb_mem 66 (by decide +kernel) (by decide +kernel), ⟨tb_mem 308 (by decide +kernel) (by decide +kernel), tb_mem 309 (by decide +kernel) (by decide +kernel)⟩, by decide +kernel, by decide +kernel⟩
set_option maxRecDepth 20000 in
theorem kC_X6_within : mCalS yX6_within cX6_within 2 (some .boolean) 2 := ⟨tb_mem 313 (by decide +kernel) (by decide +kernel), tb_mem 66 (by decide +kernel) (by decide +kernel), tb_mem 312 (by decide +kernel) (by decide +kernel), by decide +kernel, by decide +kernel⟩
set_option maxRecDepth 20000 in
theorem kC_X5_append : mCal yX5_append cX5_append 2 none 1 := ⟨tb_mem 317 (by decide +kernel) (by decide +kernel), tb_mem 71 (by decide +kernel) (by decide +kernel), ⟨tb_mem 315 (by decide +kernel) (by decide +kernel), tb_mem 316 (by decide +kernel) (by decide +kernel)⟩, by decide +kernel, by decide +kernel⟩
set_option maxRecDepth 20000 in
theorem kC_X5_readText : mCal yX5_readText cX5_readText 3 none 0 := ⟨tb_mem 321 (by decide +kernel) (by decide +kernel), tb_mem 71 (by decide +kernel) (by decide +kernel), ⟨tb_mem 320 (by decide +kernel) (by decide +kernel), tb_mem 0 (by decide +kernel) (by decide +kernel)⟩, by decide +kernel, by decide +kernel⟩
set_option maxRecDepth 20000 in
theorem kC_X5_readStatement : mCal yX5_readStatement cX5_readStatement 6 (some .boolean) 1 := ⟨tb_mem 325 (by decide +kernel) (by decide +kernel), tb_mem 71 (by decide +kernel) (by decide +kernel), ⟨tb_mem 324 (by decide +kernel) (by decide +kernel), tb_mem 1 (by decide +kernel) (by decide +kernel)⟩, by decide +kernel, by decide +kernel⟩
set_option maxRecDepth 20000 in
theorem kC_X5_kindOf : mCalS yX5_kindOf cX5_kindOf 1 (some .int) 1 := ⟨tb_mem 328 (by decide +kernel) (by decide +kernel), tb_mem 71 (by decide +kernel) (by decide +kernel), tb_mem 327 (by decide +kernel) (by decide +kernel), by decide +kernel, by decide +kernel⟩
set_option maxRecDepth 20000 in
theorem kC_X5_readCallee : mCal yX5_readCallee cX5_readCallee 2 (some .boolean) 1 := ⟨tb_mem 332 (by decide +kernel) (by decide +kernel), tb_mem 71 (by decide +kernel) (by decide +kernel), ⟨tb_mem 331 (by decide +kernel) (by decide +kernel), tb_mem 2 (by decide +kernel) (by decide +kernel)⟩, by decide +kernel, by decide +kernel⟩
set_option maxRecDepth 20000 in
theorem kC_X5_readIndex : mCal yX5_readIndex cX5_readIndex 3 (some .int) 0 := ⟨tb_mem 336 (by decide +kernel) (by decide +kernel), tb_mem 71 (by decide +kernel) (by decide +kernel), ⟨tb_mem 335 (by decide +kernel) (by decide +kernel), tb_mem 3 (by decide +kernel) (by decide +kernel)⟩, by decide +kernel, by decide +kernel⟩
set_option maxRecDepth 20000 in
theorem kC_X5_isFigure : mCalS yX5_isFigure cX5_isFigure 1 (some .boolean) 1 := ⟨tb_mem 339 (by decide +kernel) (by decide +kernel), tb_mem 71 (by decide +kernel) (by decide +kernel), tb_mem 338 (by decide +kernel) (by decide +kernel), by decide +kernel, by decide +kernel⟩
set_option maxRecDepth 20000 in
theorem kC_X5_readLetter : mCal yX5_readLetter cX5_readLetter 2 (some .int) 0 := ⟨tb_mem 343 (by decide +kernel) (by decide +kernel), tb_mem 71 (by decide +kernel) (by decide +kernel), ⟨tb_mem 342 (by decide +kernel) (by decide +kernel), tb_mem 4 (by decide +kernel) (by decide +kernel)⟩, by decide +kernel, by decide +kernel⟩
set_option maxRecDepth 20000 in
theorem kC_X5_isLetter : mCalS yX5_isLetter cX5_isLetter 1 (some .boolean) 1 := ⟨tb_mem 346 (by decide +kernel) (by decide +kernel), tb_mem 71 (by decide +kernel) (by decide +kernel), tb_mem 345 (by decide +kernel) (by decide +kernel), by decide +kernel, by decide +kernel⟩
set_option maxRecDepth 20000 in
theorem kC_X5_readTerm : mCal yX5_readTerm cX5_readTerm 3 (some .boolean) 0 := ⟨tb_mem 350 (by decide +kernel) (by decide +kernel), tb_mem 71 (by decide +kernel) (by decide +kernel), ⟨tb_mem 349 (by decide +kernel) (by decide +kernel), tb_mem 5 (by decide +kernel) (by decide +kernel)⟩, by decide +kernel, by decide +kernel⟩
set_option maxRecDepth 20000 in
theorem kC_X5_readLeaf : mCal yX5_readLeaf cX5_readLeaf 2 (some .boolean) 0 := ⟨tb_mem 354 (by decide +kernel) (by decide +kernel), tb_mem 71 (by decide +kernel) (by decide +kernel), ⟨tb_mem 353 (by decide +kernel) (by decide +kernel), tb_mem 6 (by decide +kernel) (by decide +kernel)⟩, by decide +kernel, by decide +kernel⟩
set_option maxRecDepth 20000 in
theorem kC_X5_addLeaf : mCal yX5_addLeaf cX5_addLeaf 3 (some .boolean) 2 := ⟨tb_mem 358 (by decide +kernel) (by decide +kernel), tb_mem 71 (by decide +kernel) (by decide +kernel), ⟨tb_mem 357 (by decide +kernel) (by decide +kernel), tb_mem 7 (by decide +kernel) (by decide +kernel)⟩, by decide +kernel, by decide +kernel⟩
set_option maxRecDepth 20000 in
theorem kC_X0_forget : mCal yX0_forget cX0_forget 1 none 0 := ⟨tb_mem 362 (by decide +kernel) (by decide +kernel), tb_mem 67 (by decide +kernel) (by decide +kernel), ⟨tb_mem 360 (by decide +kernel) (by decide +kernel), tb_mem 361 (by decide +kernel) (by decide +kernel)⟩, by decide +kernel, by decide +kernel⟩
set_option maxRecDepth 20000 in
theorem kC_X6_wipe : mCal yX6_wipe cX6_wipe 3 (some .int) 1 := ⟨tb_mem 366 (by decide +kernel) (by decide +kernel), tb_mem 66 (by decide +kernel) (by decide +kernel), ⟨tb_mem 364 (by decide +kernel) (by decide +kernel), tb_mem 365 (by decide +kernel) (by decide +kernel)⟩, by decide +kernel, by decide +kernel⟩
set_option maxRecDepth 20000 in
theorem kC_X5_empty : mCal yX5_empty cX5_empty 1 none 0 := ⟨tb_mem 370 (by decide +kernel) (by decide +kernel), tb_mem 71 (by decide +kernel) (by decide +kernel), ⟨tb_mem 368 (by decide +kernel) (by decide +kernel), tb_mem 369 (by decide +kernel) (by decide +kernel)⟩, by decide +kernel, by decide +kernel⟩
set_option maxRecDepth 20000 in
theorem kC_X6_fault : mCal yX6_fault cX6_fault 2 (some .int) 1 := ⟨tb_mem 374 (by decide +kernel) (by decide +kernel), tb_mem 66 (by decide +kernel) (by decide +kernel), ⟨tb_mem 372 (by decide +kernel) (by decide +kernel), tb_mem 373 (by decide +kernel) (by decide +kernel)⟩, by decide +kernel, by decide +kernel⟩
set_option maxRecDepth 20000 in
theorem kC_X6_set : mCal yX6_set cX6_set 4 (some .int) 2 := ⟨tb_mem 378 (by decide +kernel) (by decide +kernel), tb_mem 66 (by decide +kernel) (by decide +kernel), ⟨tb_mem 376 (by decide +kernel) (by decide +kernel), tb_mem 377 (by decide +kernel) (by decide +kernel)⟩, by decide +kernel, by decide +kernel⟩
set_option maxRecDepth 20000 in
theorem kC_X6_get : mCal yX6_get cX6_get 2 (some .int) 1 := ⟨tb_mem 382 (by decide +kernel) (by decide +kernel), tb_mem 66 (by decide +kernel) (by decide +kernel), ⟨tb_mem 380 (by decide +kernel) (by decide +kernel), tb_mem 381 (by decide +kernel) (by decide +kernel)⟩, by decide +kernel, by decide +kernel⟩
set_option maxRecDepth 20000 in
theorem kC_X6_effect : mCal yX6_effect cX6_effect 4 (some .int) 3 := ⟨tb_mem 386 (by decide +kernel) (by decide +kernel), tb_mem 66 (by decide +kernel) (by decide +kernel), ⟨tb_mem 384 (by decide +kernel) (by decide +kernel), tb_mem 385 (by decide +kernel) (by decide +kernel)⟩, by decide +kernel, by decide +kernel⟩
set_option maxRecDepth 20000 in
theorem kC_X0_find : mCal yX0_find cX0_find 4 none 1 := ⟨tb_mem 390 (by decide +kernel) (by decide +kernel), tb_mem 67 (by decide +kernel) (by decide +kernel), ⟨tb_mem 388 (by decide +kernel) (by decide +kernel), tb_mem 389 (by decide +kernel) (by decide +kernel)⟩, by decide +kernel, by decide +kernel⟩
set_option maxRecDepth 20000 in
theorem kC_X0_findKnown : mCal yX0_findKnown cX0_findKnown 4 none 1 := ⟨tb_mem 394 (by decide +kernel) (by decide +kernel), tb_mem 67 (by decide +kernel) (by decide +kernel), ⟨tb_mem 393 (by decide +kernel) (by decide +kernel), tb_mem 8 (by decide +kernel) (by decide +kernel)⟩, by decide +kernel, by decide +kernel⟩
set_option maxRecDepth 20000 in
theorem kC_X5_calleeBits : mCal yX5_calleeBits cX5_calleeBits 3 (some .int) 0 := ⟨tb_mem 398 (by decide +kernel) (by decide +kernel), tb_mem 71 (by decide +kernel) (by decide +kernel), ⟨tb_mem 396 (by decide +kernel) (by decide +kernel), tb_mem 397 (by decide +kernel) (by decide +kernel)⟩, by decide +kernel, by decide +kernel⟩
set_option maxRecDepth 20000 in
theorem kC_X0_knowsBits : mCal yX0_knowsBits cX0_knowsBits 3 (some .boolean) 1 := ⟨tb_mem 402 (by decide +kernel) (by decide +kernel), tb_mem 67 (by decide +kernel) (by decide +kernel), ⟨tb_mem 401 (by decide +kernel) (by decide +kernel), tb_mem 9 (by decide +kernel) (by decide +kernel)⟩, by decide +kernel, by decide +kernel⟩
set_option maxRecDepth 20000 in
theorem kC_X0_startWithOwn : mCal yX0_startWithOwn cX0_startWithOwn 7 none 3 := ⟨tb_mem 406 (by decide +kernel) (by decide +kernel), tb_mem 67 (by decide +kernel) (by decide +kernel), ⟨tb_mem 405 (by decide +kernel) (by decide +kernel), tb_mem 10 (by decide +kernel) (by decide +kernel)⟩, by decide +kernel, by decide +kernel⟩
set_option maxRecDepth 20000 in
theorem kC_X6_placeOf : mCalS yX6_placeOf cX6_placeOf 2 (some .int) 2 := ⟨tb_mem 409 (by decide +kernel) (by decide +kernel), tb_mem 66 (by decide +kernel) (by decide +kernel), tb_mem 408 (by decide +kernel) (by decide +kernel), by decide +kernel, by decide +kernel⟩
set_option maxRecDepth 20000 in
theorem kC_X0_goRound : mCal yX0_goRound cX0_goRound 5 (some .boolean) 1 := ⟨tb_mem 413 (by decide +kernel) (by decide +kernel), tb_mem 67 (by decide +kernel) (by decide +kernel), ⟨tb_mem 412 (by decide +kernel) (by decide +kernel), tb_mem 11 (by decide +kernel) (by decide +kernel)⟩, by decide +kernel, by decide +kernel⟩
set_option maxRecDepth 20000 in
theorem kC_X0_takeFromCallees : mCal yX0_takeFromCallees cX0_takeFromCallees 7 (some .boolean) 3 := ⟨tb_mem 417 (by decide +kernel) (by decide +kernel), tb_mem 67 (by decide +kernel) (by decide +kernel), ⟨tb_mem 416 (by decide +kernel) (by decide +kernel), tb_mem 12 (by decide +kernel) (by decide +kernel)⟩, by decide +kernel, by decide +kernel⟩
set_option maxRecDepth 20000 in
theorem kC_X0_take : mCal yX0_take cX0_take 4 (some .boolean) 2 := ⟨tb_mem 421 (by decide +kernel) (by decide +kernel), tb_mem 67 (by decide +kernel) (by decide +kernel), ⟨tb_mem 420 (by decide +kernel) (by decide +kernel), tb_mem 13 (by decide +kernel) (by decide +kernel)⟩, by decide +kernel, by decide +kernel⟩
set_option maxRecDepth 20000 in
theorem kC_X0_part : mCal yX0_part cX0_part 5 (some .int) 3 := ⟨tb_mem 425 (by decide +kernel) (by decide +kernel), tb_mem 67 (by decide +kernel) (by decide +kernel), ⟨tb_mem 423 (by decide +kernel) (by decide +kernel), tb_mem 424 (by decide +kernel) (by decide +kernel)⟩, by decide +kernel, by decide +kernel⟩
set_option maxRecDepth 20000 in
theorem kC_X6_causes : mCal yX6_causes cX6_causes 5 (some .int) 4 := ⟨tb_mem 429 (by decide +kernel) (by decide +kernel), tb_mem 66 (by decide +kernel) (by decide +kernel), ⟨tb_mem 427 (by decide +kernel) (by decide +kernel), tb_mem 428 (by decide +kernel) (by decide +kernel)⟩, by decide +kernel, by decide +kernel⟩
set_option maxRecDepth 20000 in
theorem kC_X0_between : mCal yX0_between cX0_between 10 (some .int) 4 := ⟨tb_mem 433 (by decide +kernel) (by decide +kernel), tb_mem 67 (by decide +kernel) (by decide +kernel), ⟨tb_mem 431 (by decide +kernel) (by decide +kernel), tb_mem 432 (by decide +kernel) (by decide +kernel)⟩, by decide +kernel, by decide +kernel⟩
set_option maxRecDepth 20000 in
theorem kC_X6_call : mCal yX6_call cX6_call 3 (some .int) 2 := ⟨tb_mem 437 (by decide +kernel) (by decide +kernel), tb_mem 66 (by decide +kernel) (by decide +kernel), ⟨tb_mem 435 (by decide +kernel) (by decide +kernel), tb_mem 436 (by decide +kernel) (by decide +kernel)⟩, by decide +kernel, by decide +kernel⟩
set_option maxRecDepth 20000 in
theorem kC_X4_append : mCal yX4_append cX4_append 3 none 2 := ⟨tb_mem 441 (by decide +kernel) (by decide +kernel), tb_mem 68 (by decide +kernel) (by decide +kernel), ⟨tb_mem 439 (by decide +kernel) (by decide +kernel), tb_mem 440 (by decide +kernel) (by decide +kernel)⟩, by decide +kernel, by decide +kernel⟩
set_option maxRecDepth 20000 in
theorem kC_X6_drop : mCal yX6_drop cX6_drop 2 (some .int) 1 := ⟨tb_mem 445 (by decide +kernel) (by decide +kernel), tb_mem 66 (by decide +kernel) (by decide +kernel), ⟨tb_mem 443 (by decide +kernel) (by decide +kernel), tb_mem 444 (by decide +kernel) (by decide +kernel)⟩, by decide +kernel, by decide +kernel⟩
set_option maxRecDepth 20000 in
theorem kC_X4_remove : mCal yX4_remove cX4_remove 3 none 1 := ⟨tb_mem 449 (by decide +kernel) (by decide +kernel), tb_mem 68 (by decide +kernel) (by decide +kernel), ⟨tb_mem 447 (by decide +kernel) (by decide +kernel), tb_mem 448 (by decide +kernel) (by decide +kernel)⟩, by decide +kernel, by decide +kernel⟩
set_option maxRecDepth 20000 in
theorem kC_X6_swap : mCal yX6_swap cX6_swap 2 (some .int) 1 := ⟨tb_mem 453 (by decide +kernel) (by decide +kernel), tb_mem 66 (by decide +kernel) (by decide +kernel), ⟨tb_mem 451 (by decide +kernel) (by decide +kernel), tb_mem 452 (by decide +kernel) (by decide +kernel)⟩, by decide +kernel, by decide +kernel⟩
set_option maxRecDepth 20000 in
theorem kC_X0_free : mCal yX0_free cX0_free 4 (some .boolean) 3 := ⟨tb_mem 457 (by decide +kernel) (by decide +kernel), tb_mem 67 (by decide +kernel) (by decide +kernel), ⟨tb_mem 455 (by decide +kernel) (by decide +kernel), tb_mem 456 (by decide +kernel) (by decide +kernel)⟩, by decide +kernel, by decide +kernel⟩
set_option maxRecDepth 20000 in
theorem kC_X4_exchangeWithNext : mCal yX4_exchangeWithNext cX4_exchangeWithNext 4 none 1 := ⟨tb_mem 462 (by decide +kernel) (by decide +kernel), tb_mem 68 (by decide +kernel) (by decide +kernel), ⟨tb_mem 460 (by decide +kernel) (by decide +kernel), tb_mem 461 (by decide +kernel) (by decide +kernel)⟩, by decide +kernel, by decide +kernel⟩
set_option maxRecDepth 20000 in
theorem kC_X6_told : mCal yX6_told cX6_told 3 (some .int) 2 := ⟨tb_mem 466 (by decide +kernel) (by decide +kernel), tb_mem 66 (by decide +kernel) (by decide +kernel), ⟨tb_mem 464 (by decide +kernel) (by decide +kernel), tb_mem 465 (by decide +kernel) (by decide +kernel)⟩, by decide +kernel, by decide +kernel⟩
set_option maxRecDepth 20000 in
theorem kC_X6_layProgram : mCal yX6_layProgram cX6_layProgram 1 (some .boolean) 0 := ⟨tb_mem 470 (by decide +kernel) (by decide +kernel), tb_mem 66 (by decide +kernel) (by decide +kernel), ⟨tb_mem 469 (by decide +kernel) (by decide +kernel), tb_mem 14 (by decide +kernel) (by decide +kernel)⟩, by decide +kernel, by decide +kernel⟩
set_option maxRecDepth 20000 in
theorem kC_X0_knowsAll : mCal yX0_knowsAll cX0_knowsAll 3 (some .boolean) 1 := ⟨tb_mem 474 (by decide +kernel) (by decide +kernel), tb_mem 67 (by decide +kernel) (by decide +kernel), ⟨tb_mem 472 (by decide +kernel) (by decide +kernel), tb_mem 473 (by decide +kernel) (by decide +kernel)⟩, by decide +kernel, by decide +kernel⟩
set_option maxRecDepth 20000 in
theorem kC_X2_lay : mCal yX2_lay cX2_lay 5 none 2 := ⟨tb_mem 478 (by decide +kernel) (by decide +kernel), tb_mem 69 (by decide +kernel) (by decide +kernel), ⟨tb_mem 476 (by decide +kernel) (by decide +kernel), tb_mem 477 (by decide +kernel) (by decide +kernel)⟩, by decide +kernel, by decide +kernel⟩
set_option maxRecDepth 20000 in
theorem kC_X4_copyFrom : mCal yX4_copyFrom cX4_copyFrom 2 none 1 := ⟨tb_mem 482 (by decide +kernel) (by decide +kernel), tb_mem 68 (by decide +kernel) (by decide +kernel), ⟨tb_mem 480 (by decide +kernel) (by decide +kernel), tb_mem 481 (by decide +kernel) (by decide +kernel)⟩, by decide +kernel, by decide +kernel⟩
set_option maxRecDepth 20000 in
theorem kC_J9_max_7cf53 : mCalS yJ9_max_7cf53 cJ9_max_7cf53 2 (some .int) 2 := ⟨tb_mem 489 (by decide +kernel) (by decide +kernel), tb_mem 75 (by decide +kernel) (by decide +kernel), tb_mem 488 (by decide +kernel) (by decide +kernel), by decide +kernel, by decide +kernel⟩
set_option maxRecDepth 20000 in
theorem kC_X2_position : mCal yX2_position cX2_position 5 (some .int) 2 := ⟨tb_mem 493 (by decide +kernel) (by decide +kernel), tb_mem 69 (by decide +kernel) (by decide +kernel), ⟨tb_mem 492 (by decide +kernel) (by decide +kernel), tb_mem 15 (by decide +kernel) (by decide +kernel)⟩, by decide +kernel, by decide +kernel⟩
set_option maxRecDepth 20000 in
theorem kC_X2_goesAhead : mCal yX2_goesAhead cX2_goesAhead 4 (some .boolean) 3 := ⟨tb_mem 497 (by decide +kernel) (by decide +kernel), tb_mem 69 (by decide +kernel) (by decide +kernel), ⟨tb_mem 496 (by decide +kernel) (by decide +kernel), tb_mem 16 (by decide +kernel) (by decide +kernel)⟩, by decide +kernel, by decide +kernel⟩
set_option maxRecDepth 20000 in
theorem kC_X6_stages : mCal yX6_stages cX6_stages 2 (some .int) 1 := ⟨tb_mem 501 (by decide +kernel) (by decide +kernel), tb_mem 66 (by decide +kernel) (by decide +kernel), ⟨tb_mem 499 (by decide +kernel) (by decide +kernel), tb_mem 500 (by decide +kernel) (by decide +kernel)⟩, by decide +kernel, by decide +kernel⟩
set_option maxRecDepth 20000 in
theorem kC_X2_mostOfOneStage : mCal yX2_mostOfOneStage cX2_mostOfOneStage 3 (some .int) 0 := ⟨tb_mem 505 (by decide +kernel) (by decide +kernel), tb_mem 69 (by decide +kernel) (by decide +kernel), ⟨tb_mem 503 (by decide +kernel) (by decide +kernel), tb_mem 504 (by decide +kernel) (by decide +kernel)⟩, by decide +kernel, by decide +kernel⟩
set_option maxRecDepth 20000 in
theorem kC_X2_sizeOfStage : mCal yX2_sizeOfStage cX2_sizeOfStage 4 (some .int) 1 := ⟨tb_mem 509 (by decide +kernel) (by decide +kernel), tb_mem 69 (by decide +kernel) (by decide +kernel), ⟨tb_mem 508 (by decide +kernel) (by decide +kernel), tb_mem 17 (by decide +kernel) (by decide +kernel)⟩, by decide +kernel, by decide +kernel⟩
set_option maxRecDepth 20000 in
theorem kC_X2_firstFullestStage : mCal yX2_firstFullestStage cX2_firstFullestStage 3 (some .int) 0 := ⟨tb_mem 513 (by decide +kernel) (by decide +kernel), tb_mem 69 (by decide +kernel) (by decide +kernel), ⟨tb_mem 511 (by decide +kernel) (by decide +kernel), tb_mem 512 (by decide +kernel) (by decide +kernel)⟩, by decide +kernel, by decide +kernel⟩
set_option maxRecDepth 20000 in
theorem kC_X6_nearestSingle : mCalS yX6_nearestSingle cX6_nearestSingle 6 (some .int) 2 := ⟨tb_mem 517 (by decide +kernel) (by decide +kernel), tb_mem 66 (by decide +kernel) (by decide +kernel), tb_mem 516 (by decide +kernel) (by decide +kernel), by decide +kernel, by decide +kernel⟩
set_option maxRecDepth 20000 in
theorem kC_X2_isNormal : mCal yX2_isNormal cX2_isNormal 2 (some .boolean) 0 := ⟨tb_mem 521 (by decide +kernel) (by decide +kernel), tb_mem 69 (by decide +kernel) (by decide +kernel), ⟨tb_mem 519 (by decide +kernel) (by decide +kernel), tb_mem 520 (by decide +kernel) (by decide +kernel)⟩, by decide +kernel, by decide +kernel⟩
set_option maxRecDepth 20000 in
theorem kC_X6_compareWithImage : mCal yX6_compareWithImage cX6_compareWithImage 2 (some .int) 1 := ⟨tb_mem 525 (by decide +kernel) (by decide +kernel), tb_mem 66 (by decide +kernel) (by decide +kernel), ⟨tb_mem 524 (by decide +kernel) (by decide +kernel), tb_mem 18 (by decide +kernel) (by decide +kernel)⟩, by decide +kernel, by decide +kernel⟩
set_option maxRecDepth 20000 in
theorem kC_X2_sameNormalForm : mCal yX2_sameNormalForm cX2_sameNormalForm 5 (some .boolean) 1 := ⟨tb_mem 529 (by decide +kernel) (by decide +kernel), tb_mem 69 (by decide +kernel) (by decide +kernel), ⟨tb_mem 527 (by decide +kernel) (by decide +kernel), tb_mem 528 (by decide +kernel) (by decide +kernel)⟩, by decide +kernel, by decide +kernel⟩
set_option maxRecDepth 20000 in
theorem kC_X2_arrange : mCal yX2_arrange cX2_arrange 3 none 1 := ⟨tb_mem 533 (by decide +kernel) (by decide +kernel), tb_mem 69 (by decide +kernel) (by decide +kernel), ⟨tb_mem 531 (by decide +kernel) (by decide +kernel), tb_mem 532 (by decide +kernel) (by decide +kernel)⟩, by decide +kernel, by decide +kernel⟩
set_option maxRecDepth 20000 in
theorem kC_X6_run : mCal yX6_run cX6_run 3 (some .int) 2 := ⟨tb_mem 537 (by decide +kernel) (by decide +kernel), tb_mem 66 (by decide +kernel) (by decide +kernel), ⟨tb_mem 535 (by decide +kernel) (by decide +kernel), tb_mem 536 (by decide +kernel) (by decide +kernel)⟩, by decide +kernel, by decide +kernel⟩
set_option maxRecDepth 20000 in
theorem kC_X6_perform : mCal yX6_perform cX6_perform 2 (some .boolean) 1 := ⟨tb_mem 541 (by decide +kernel) (by decide +kernel), tb_mem 66 (by decide +kernel) (by decide +kernel), ⟨tb_mem 540 (by decide +kernel) (by decide +kernel), tb_mem 19 (by decide +kernel) (by decide +kernel)⟩, by decide +kernel, by decide +kernel⟩
set_option maxRecDepth 20000 in
theorem kC_X3_perform : mCal yX3_perform cX3_perform 8 (some .boolean) 4 := ⟨tb_mem 546 (by decide +kernel) (by decide +kernel), tb_mem 70 (by decide +kernel) (by decide +kernel), ⟨tb_mem 544 (by decide +kernel) (by decide +kernel), tb_mem 545 (by decide +kernel) (by decide +kernel)⟩, by decide +kernel, by decide +kernel⟩
set_option maxRecDepth 20000 in
theorem kC_X3_doRoutine : mCal yX3_doRoutine cX3_doRoutine 9 (some .int) 4 := ⟨tb_mem 551 (by decide +kernel) (by decide +kernel), tb_mem 70 (by decide +kernel) (by decide +kernel), ⟨tb_mem 550 (by decide +kernel) (by decide +kernel), tb_mem 20 (by decide +kernel) (by decide +kernel)⟩, by decide +kernel, by decide +kernel⟩
set_option maxRecDepth 20000 in
theorem kC_X3_doSimple : mCal yX3_doSimple cX3_doSimple 5 (some .int) 4 := ⟨tb_mem 556 (by decide +kernel) (by decide +kernel), tb_mem 70 (by decide +kernel) (by decide +kernel), ⟨tb_mem 555 (by decide +kernel) (by decide +kernel), tb_mem 21 (by decide +kernel) (by decide +kernel)⟩, by decide +kernel, by decide +kernel⟩
set_option maxRecDepth 20000 in
theorem kC_X3_sumOfLeaves : mCal yX3_sumOfLeaves cX3_sumOfLeaves 7 (some .int) 3 := ⟨tb_mem 560 (by decide +kernel) (by decide +kernel), tb_mem 70 (by decide +kernel) (by decide +kernel), ⟨tb_mem 559 (by decide +kernel) (by decide +kernel), tb_mem 22 (by decide +kernel) (by decide +kernel)⟩, by decide +kernel, by decide +kernel⟩
set_option maxRecDepth 20000 in
theorem kC_X5_leafStart : mCal yX5_leafStart cX5_leafStart 2 (some .int) 1 := ⟨tb_mem 564 (by decide +kernel) (by decide +kernel), tb_mem 71 (by decide +kernel) (by decide +kernel), ⟨tb_mem 562 (by decide +kernel) (by decide +kernel), tb_mem 563 (by decide +kernel) (by decide +kernel)⟩, by decide +kernel, by decide +kernel⟩
set_option maxRecDepth 20000 in
theorem kC_X6_thrower : mCal yX6_thrower cX6_thrower 3 (some .int) 2 := ⟨tb_mem 568 (by decide +kernel) (by decide +kernel), tb_mem 66 (by decide +kernel) (by decide +kernel), ⟨tb_mem 566 (by decide +kernel) (by decide +kernel), tb_mem 567 (by decide +kernel) (by decide +kernel)⟩, by decide +kernel, by decide +kernel⟩
set_option maxRecDepth 20000 in
theorem kC_X6_commit : mCal yX6_commit cX6_commit 1 (some .int) 0 := ⟨tb_mem 572 (by decide +kernel) (by decide +kernel), tb_mem 66 (by decide +kernel) (by decide +kernel), ⟨tb_mem 570 (by decide +kernel) (by decide +kernel), tb_mem 571 (by decide +kernel) (by decide +kernel)⟩, by decide +kernel, by decide +kernel⟩
set_option maxRecDepth 20000 in
theorem kC_X6_image : mCal yX6_image cX6_image 2 (some .int) 1 := ⟨tb_mem 577 (by decide +kernel) (by decide +kernel), tb_mem 66 (by decide +kernel) (by decide +kernel), ⟨tb_mem 575 (by decide +kernel) (by decide +kernel), tb_mem 576 (by decide +kernel) (by decide +kernel)⟩, by decide +kernel, by decide +kernel⟩
set_option maxRecDepth 20000 in
theorem kC_X1_keep : mCal yX1_keep cX1_keep 3 none 2 := ⟨tb_mem 581 (by decide +kernel) (by decide +kernel), tb_mem 72 (by decide +kernel) (by decide +kernel), ⟨tb_mem 579 (by decide +kernel) (by decide +kernel), tb_mem 580 (by decide +kernel) (by decide +kernel)⟩, by decide +kernel, by decide +kernel⟩
set_option maxRecDepth 20000 in
theorem kC_X6_restore : mCal yX6_restore cX6_restore 2 (some .int) 1 := ⟨tb_mem 587 (by decide +kernel) (by decide +kernel), tb_mem 66 (by decide +kernel) (by decide +kernel), ⟨tb_mem 585 (by decide +kernel) (by decide +kernel), tb_mem 586 (by decide +kernel) (by decide +kernel)⟩, by decide +kernel, by decide +kernel⟩
set_option maxRecDepth 20000 in
theorem kC_X6_count : mCal yX6_count cX6_count 4 (some .int) 1 := ⟨tb_mem 592 (by decide +kernel) (by decide +kernel), tb_mem 66 (by decide +kernel) (by decide +kernel), ⟨tb_mem 590 (by decide +kernel) (by decide +kernel), tb_mem 591 (by decide +kernel) (by decide +kernel)⟩, by decide +kernel, by decide +kernel⟩
set_option maxRecDepth 20000 in
theorem kC_J9_floorMod_7cf53 : mCalS yJ9_floorMod_7cf53 cJ9_floorMod_7cf53 3 (some .int) 2 := ⟨tb_mem 595 (by decide +kernel) (by decide +kernel), tb_mem 75 (by decide +kernel) (by decide +kernel), tb_mem 594 (by decide +kernel) (by decide +kernel), by decide +kernel, by decide +kernel⟩
set_option maxRecDepth 20000 in
theorem kC_X7_say : mCal yX7_say cX7_say 3 (some .int) 2 := ⟨tb_mem 724 (by decide +kernel) (by decide +kernel), tb_mem 73 (by decide +kernel) (by decide +kernel), ⟨tb_mem 722 (by decide +kernel) (by decide +kernel), tb_mem 723 (by decide +kernel) (by decide +kernel)⟩, by decide +kernel, by decide +kernel⟩
set_option maxRecDepth 20000 in
theorem kC_X7_isRoutine : mCalS yX7_isRoutine cX7_isRoutine 1 (some .boolean) 1 := ⟨tb_mem 727 (by decide +kernel) (by decide +kernel), tb_mem 73 (by decide +kernel) (by decide +kernel), tb_mem 726 (by decide +kernel) (by decide +kernel), by decide +kernel, by decide +kernel⟩
set_option maxRecDepth 20000 in
theorem kC_X7_in : mCalS yX7_in cX7_in 6 (some .boolean) 3 := ⟨tb_mem 731 (by decide +kernel) (by decide +kernel), tb_mem 73 (by decide +kernel) (by decide +kernel), tb_mem 730 (by decide +kernel) (by decide +kernel), by decide +kernel, by decide +kernel⟩
set_option maxRecDepth 20000 in
theorem kC_X7_wipe : mCal yX7_wipe cX7_wipe 3 (some .int) 1 := ⟨tb_mem 737 (by decide +kernel) (by decide +kernel), tb_mem 73 (by decide +kernel) (by decide +kernel), ⟨tb_mem 735 (by decide +kernel) (by decide +kernel), tb_mem 736 (by decide +kernel) (by decide +kernel)⟩, by decide +kernel, by decide +kernel⟩
set_option maxRecDepth 20000 in
theorem kC_X7_fault : mCal yX7_fault cX7_fault 2 (some .int) 1 := ⟨tb_mem 741 (by decide +kernel) (by decide +kernel), tb_mem 73 (by decide +kernel) (by decide +kernel), ⟨tb_mem 739 (by decide +kernel) (by decide +kernel), tb_mem 740 (by decide +kernel) (by decide +kernel)⟩, by decide +kernel, by decide +kernel⟩
set_option maxRecDepth 20000 in
theorem kC_X7_faultOf : mCal yX7_faultOf cX7_faultOf 2 (some .int) 1 := ⟨tb_mem 745 (by decide +kernel) (by decide +kernel), tb_mem 73 (by decide +kernel) (by decide +kernel), ⟨tb_mem 744 (by decide +kernel) (by decide +kernel), tb_mem 23 (by decide +kernel) (by decide +kernel)⟩, by decide +kernel, by decide +kernel⟩
set_option maxRecDepth 20000 in
theorem kC_X7_begin : mCal yX7_begin cX7_begin 2 none 1 := ⟨tb_mem 749 (by decide +kernel) (by decide +kernel), tb_mem 73 (by decide +kernel) (by decide +kernel), ⟨tb_mem 748 (by decide +kernel) (by decide +kernel), tb_mem 24 (by decide +kernel) (by decide +kernel)⟩, by decide +kernel, by decide +kernel⟩
set_option maxRecDepth 20000 in
theorem kC_X7_isMore : mCal yX7_isMore cX7_isMore 1 (some .boolean) 0 := ⟨tb_mem 753 (by decide +kernel) (by decide +kernel), tb_mem 73 (by decide +kernel) (by decide +kernel), ⟨tb_mem 752 (by decide +kernel) (by decide +kernel), tb_mem 25 (by decide +kernel) (by decide +kernel)⟩, by decide +kernel, by decide +kernel⟩
set_option maxRecDepth 20000 in
theorem kC_X7_statement : mCal yX7_statement cX7_statement 4 (some .boolean) 1 := ⟨tb_mem 757 (by decide +kernel) (by decide +kernel), tb_mem 73 (by decide +kernel) (by decide +kernel), ⟨tb_mem 756 (by decide +kernel) (by decide +kernel), tb_mem 26 (by decide +kernel) (by decide +kernel)⟩, by decide +kernel, by decide +kernel⟩
set_option maxRecDepth 20000 in
theorem kC_X7_here : mCal yX7_here cX7_here 1 (some .int) 0 := ⟨tb_mem 761 (by decide +kernel) (by decide +kernel), tb_mem 73 (by decide +kernel) (by decide +kernel), ⟨tb_mem 760 (by decide +kernel) (by decide +kernel), tb_mem 27 (by decide +kernel) (by decide +kernel)⟩, by decide +kernel, by decide +kernel⟩
set_option maxRecDepth 20000 in
theorem kC_X7_callHere : mCal yX7_callHere cX7_callHere 2 (some .boolean) 1 := ⟨tb_mem 765 (by decide +kernel) (by decide +kernel), tb_mem 73 (by decide +kernel) (by decide +kernel), ⟨tb_mem 764 (by decide +kernel) (by decide +kernel), tb_mem 28 (by decide +kernel) (by decide +kernel)⟩, by decide +kernel, by decide +kernel⟩
set_option maxRecDepth 20000 in
theorem kC_X7_index : mCal yX7_index cX7_index 4 (some .int) 1 := ⟨tb_mem 769 (by decide +kernel) (by decide +kernel), tb_mem 73 (by decide +kernel) (by decide +kernel), ⟨tb_mem 768 (by decide +kernel) (by decide +kernel), tb_mem 29 (by decide +kernel) (by decide +kernel)⟩, by decide +kernel, by decide +kernel⟩
set_option maxRecDepth 20000 in
theorem kC_X7_isFigure : mCalS yX7_isFigure cX7_isFigure 1 (some .boolean) 1 := ⟨tb_mem 772 (by decide +kernel) (by decide +kernel), tb_mem 73 (by decide +kernel) (by decide +kernel), tb_mem 771 (by decide +kernel) (by decide +kernel), by decide +kernel, by decide +kernel⟩
set_option maxRecDepth 20000 in
theorem kC_X7_numberHere : mCal yX7_numberHere cX7_numberHere 1 (some .boolean) 0 := ⟨tb_mem 776 (by decide +kernel) (by decide +kernel), tb_mem 73 (by decide +kernel) (by decide +kernel), ⟨tb_mem 775 (by decide +kernel) (by decide +kernel), tb_mem 30 (by decide +kernel) (by decide +kernel)⟩, by decide +kernel, by decide +kernel⟩
set_option maxRecDepth 20000 in
theorem kC_X7_isLetter : mCalS yX7_isLetter cX7_isLetter 1 (some .boolean) 1 := ⟨tb_mem 779 (by decide +kernel) (by decide +kernel), tb_mem 73 (by decide +kernel) (by decide +kernel), tb_mem 778 (by decide +kernel) (by decide +kernel), by decide +kernel, by decide +kernel⟩
set_option maxRecDepth 20000 in
theorem kC_X7_cellHere : mCal yX7_cellHere cX7_cellHere 3 (some .boolean) 1 := ⟨tb_mem 783 (by decide +kernel) (by decide +kernel), tb_mem 73 (by decide +kernel) (by decide +kernel), ⟨tb_mem 782 (by decide +kernel) (by decide +kernel), tb_mem 31 (by decide +kernel) (by decide +kernel)⟩, by decide +kernel, by decide +kernel⟩
set_option maxRecDepth 20000 in
theorem kC_X7_term : mCal yX7_term cX7_term 3 (some .boolean) 1 := ⟨tb_mem 787 (by decide +kernel) (by decide +kernel), tb_mem 73 (by decide +kernel) (by decide +kernel), ⟨tb_mem 786 (by decide +kernel) (by decide +kernel), tb_mem 32 (by decide +kernel) (by decide +kernel)⟩, by decide +kernel, by decide +kernel⟩
set_option maxRecDepth 20000 in
theorem kC_X7_leaf : mCal yX7_leaf cX7_leaf 4 (some .boolean) 1 := ⟨tb_mem 791 (by decide +kernel) (by decide +kernel), tb_mem 73 (by decide +kernel) (by decide +kernel), ⟨tb_mem 790 (by decide +kernel) (by decide +kernel), tb_mem 33 (by decide +kernel) (by decide +kernel)⟩, by decide +kernel, by decide +kernel⟩
set_option maxRecDepth 20000 in
theorem kC_X7_set : mCal yX7_set cX7_set 4 (some .int) 2 := ⟨tb_mem 795 (by decide +kernel) (by decide +kernel), tb_mem 73 (by decide +kernel) (by decide +kernel), ⟨tb_mem 793 (by decide +kernel) (by decide +kernel), tb_mem 794 (by decide +kernel) (by decide +kernel)⟩, by decide +kernel, by decide +kernel⟩
set_option maxRecDepth 20000 in
theorem kC_X7_isPlace : mCalS yX7_isPlace cX7_isPlace 1 (some .boolean) 1 := ⟨tb_mem 798 (by decide +kernel) (by decide +kernel), tb_mem 73 (by decide +kernel) (by decide +kernel), tb_mem 797 (by decide +kernel) (by decide +kernel), by decide +kernel, by decide +kernel⟩
set_option maxRecDepth 20000 in
theorem kC_X7_get : mCal yX7_get cX7_get 2 (some .int) 1 := ⟨tb_mem 804 (by decide +kernel) (by decide +kernel), tb_mem 73 (by decide +kernel) (by decide +kernel), ⟨tb_mem 802 (by decide +kernel) (by decide +kernel), tb_mem 803 (by decide +kernel) (by decide +kernel)⟩, by decide +kernel, by decide +kernel⟩
set_option maxRecDepth 20000 in
theorem kC_X7_effect : mCal yX7_effect cX7_effect 5 (some .int) 3 := ⟨tb_mem 808 (by decide +kernel) (by decide +kernel), tb_mem 73 (by decide +kernel) (by decide +kernel), ⟨tb_mem 806 (by decide +kernel) (by decide +kernel), tb_mem 807 (by decide +kernel) (by decide +kernel)⟩, by decide +kernel, by decide +kernel⟩
set_option maxRecDepth 20000 in
theorem kC_X7_isGiven : mCalS yX7_isGiven cX7_isGiven 1 (some .boolean) 1 := ⟨tb_mem 811 (by decide +kernel) (by decide +kernel), tb_mem 73 (by decide +kernel) (by decide +kernel), tb_mem 810 (by decide +kernel) (by decide +kernel), by decide +kernel, by decide +kernel⟩
set_option maxRecDepth 20000 in
theorem kC_X7_findEffects : mCal yX7_findEffects cX7_findEffects 2 none 0 := ⟨tb_mem 817 (by decide +kernel) (by decide +kernel), tb_mem 73 (by decide +kernel) (by decide +kernel), ⟨tb_mem 816 (by decide +kernel) (by decide +kernel), tb_mem 34 (by decide +kernel) (by decide +kernel)⟩, by decide +kernel, by decide +kernel⟩
set_option maxRecDepth 20000 in
theorem kC_X7_findReaches : mCal yX7_findReaches cX7_findReaches 4 none 0 := ⟨tb_mem 821 (by decide +kernel) (by decide +kernel), tb_mem 73 (by decide +kernel) (by decide +kernel), ⟨tb_mem 820 (by decide +kernel) (by decide +kernel), tb_mem 35 (by decide +kernel) (by decide +kernel)⟩, by decide +kernel, by decide +kernel⟩
set_option maxRecDepth 20000 in
theorem kC_X7_callsOf : mCal yX7_callsOf cX7_callsOf 3 (some .int) 1 := ⟨tb_mem 825 (by decide +kernel) (by decide +kernel), tb_mem 73 (by decide +kernel) (by decide +kernel), ⟨tb_mem 824 (by decide +kernel) (by decide +kernel), tb_mem 36 (by decide +kernel) (by decide +kernel)⟩, by decide +kernel, by decide +kernel⟩
set_option maxRecDepth 20000 in
theorem kC_X7_addEffects : mCal yX7_addEffects cX7_addEffects 6 none 2 := ⟨tb_mem 829 (by decide +kernel) (by decide +kernel), tb_mem 73 (by decide +kernel) (by decide +kernel), ⟨tb_mem 828 (by decide +kernel) (by decide +kernel), tb_mem 37 (by decide +kernel) (by decide +kernel)⟩, by decide +kernel, by decide +kernel⟩
set_option maxRecDepth 20000 in
theorem kC_X7_takeIn : mCal yX7_takeIn cX7_takeIn 6 none 5 := ⟨tb_mem 833 (by decide +kernel) (by decide +kernel), tb_mem 73 (by decide +kernel) (by decide +kernel), ⟨tb_mem 832 (by decide +kernel) (by decide +kernel), tb_mem 38 (by decide +kernel) (by decide +kernel)⟩, by decide +kernel, by decide +kernel⟩
set_option maxRecDepth 20000 in
theorem kC_X7_more : mCal yX7_more cX7_more 3 (some .int) 2 := ⟨tb_mem 837 (by decide +kernel) (by decide +kernel), tb_mem 73 (by decide +kernel) (by decide +kernel), ⟨tb_mem 836 (by decide +kernel) (by decide +kernel), tb_mem 39 (by decide +kernel) (by decide +kernel)⟩, by decide +kernel, by decide +kernel⟩
set_option maxRecDepth 20000 in
theorem kC_X7_isKnown : mCal yX7_isKnown cX7_isKnown 4 (some .boolean) 1 := ⟨tb_mem 841 (by decide +kernel) (by decide +kernel), tb_mem 73 (by decide +kernel) (by decide +kernel), ⟨tb_mem 840 (by decide +kernel) (by decide +kernel), tb_mem 40 (by decide +kernel) (by decide +kernel)⟩, by decide +kernel, by decide +kernel⟩
set_option maxRecDepth 20000 in
theorem kC_X7_causes : mCal yX7_causes cX7_causes 5 (some .int) 4 := ⟨tb_mem 845 (by decide +kernel) (by decide +kernel), tb_mem 73 (by decide +kernel) (by decide +kernel), ⟨tb_mem 843 (by decide +kernel) (by decide +kernel), tb_mem 844 (by decide +kernel) (by decide +kernel)⟩, by decide +kernel, by decide +kernel⟩
set_option maxRecDepth 20000 in
theorem kC_X7_causesOf : mCal yX7_causesOf cX7_causesOf 6 (some .int) 2 := ⟨tb_mem 849 (by decide +kernel) (by decide +kernel), tb_mem 73 (by decide +kernel) (by decide +kernel), ⟨tb_mem 848 (by decide +kernel) (by decide +kernel), tb_mem 41 (by decide +kernel) (by decide +kernel)⟩, by decide +kernel, by decide +kernel⟩
set_option maxRecDepth 20000 in
theorem kC_X7_call : mCal yX7_call cX7_call 3 (some .int) 2 := ⟨tb_mem 853 (by decide +kernel) (by decide +kernel), tb_mem 73 (by decide +kernel) (by decide +kernel), ⟨tb_mem 851 (by decide +kernel) (by decide +kernel), tb_mem 852 (by decide +kernel) (by decide +kernel)⟩, by decide +kernel, by decide +kernel⟩
set_option maxRecDepth 20000 in
theorem kC_X7_drop : mCal yX7_drop cX7_drop 3 (some .int) 1 := ⟨tb_mem 857 (by decide +kernel) (by decide +kernel), tb_mem 73 (by decide +kernel) (by decide +kernel), ⟨tb_mem 855 (by decide +kernel) (by decide +kernel), tb_mem 856 (by decide +kernel) (by decide +kernel)⟩, by decide +kernel, by decide +kernel⟩
set_option maxRecDepth 20000 in
theorem kC_X7_isCall : mCal yX7_isCall cX7_isCall 2 (some .boolean) 1 := ⟨tb_mem 861 (by decide +kernel) (by decide +kernel), tb_mem 73 (by decide +kernel) (by decide +kernel), ⟨tb_mem 860 (by decide +kernel) (by decide +kernel), tb_mem 42 (by decide +kernel) (by decide +kernel)⟩, by decide +kernel, by decide +kernel⟩
set_option maxRecDepth 20000 in
theorem kC_X7_swap : mCal yX7_swap cX7_swap 2 (some .int) 1 := ⟨tb_mem 865 (by decide +kernel) (by decide +kernel), tb_mem 73 (by decide +kernel) (by decide +kernel), ⟨tb_mem 863 (by decide +kernel) (by decide +kernel), tb_mem 864 (by decide +kernel) (by decide +kernel)⟩, by decide +kernel, by decide +kernel⟩
set_option maxRecDepth 20000 in
theorem kC_X7_effectOf : mCal yX7_effectOf cX7_effectOf 2 (some .int) 1 := ⟨tb_mem 869 (by decide +kernel) (by decide +kernel), tb_mem 73 (by decide +kernel) (by decide +kernel), ⟨tb_mem 868 (by decide +kernel) (by decide +kernel), tb_mem 43 (by decide +kernel) (by decide +kernel)⟩, by decide +kernel, by decide +kernel⟩
set_option maxRecDepth 20000 in
theorem kC_X7_turn : mCalS yX7_turn cX7_turn 3 none 2 := ⟨tb_mem 872 (by decide +kernel) (by decide +kernel), tb_mem 73 (by decide +kernel) (by decide +kernel), tb_mem 871 (by decide +kernel) (by decide +kernel), by decide +kernel, by decide +kernel⟩
set_option maxRecDepth 20000 in
theorem kC_X7_told : mCal yX7_told cX7_told 3 (some .int) 2 := ⟨tb_mem 876 (by decide +kernel) (by decide +kernel), tb_mem 73 (by decide +kernel) (by decide +kernel), ⟨tb_mem 874 (by decide +kernel) (by decide +kernel), tb_mem 875 (by decide +kernel) (by decide +kernel)⟩, by decide +kernel, by decide +kernel⟩
set_option maxRecDepth 20000 in
theorem kC_X7_isFound : mCal yX7_isFound cX7_isFound 1 (some .boolean) 0 := ⟨tb_mem 880 (by decide +kernel) (by decide +kernel), tb_mem 73 (by decide +kernel) (by decide +kernel), ⟨tb_mem 879 (by decide +kernel) (by decide +kernel), tb_mem 44 (by decide +kernel) (by decide +kernel)⟩, by decide +kernel, by decide +kernel⟩
set_option maxRecDepth 20000 in
theorem kC_X7_isAllKnown : mCal yX7_isAllKnown cX7_isAllKnown 3 (some .boolean) 0 := ⟨tb_mem 884 (by decide +kernel) (by decide +kernel), tb_mem 73 (by decide +kernel) (by decide +kernel), ⟨tb_mem 883 (by decide +kernel) (by decide +kernel), tb_mem 45 (by decide +kernel) (by decide +kernel)⟩, by decide +kernel, by decide +kernel⟩
set_option maxRecDepth 20000 in
theorem kC_X7_findStages : mCal yX7_findStages cX7_findStages 4 none 0 := ⟨tb_mem 888 (by decide +kernel) (by decide +kernel), tb_mem 73 (by decide +kernel) (by decide +kernel), ⟨tb_mem 887 (by decide +kernel) (by decide +kernel), tb_mem 46 (by decide +kernel) (by decide +kernel)⟩, by decide +kernel, by decide +kernel⟩
set_option maxRecDepth 20000 in
theorem kC_X7_isAhead : mCal yX7_isAhead cX7_isAhead 3 (some .boolean) 2 := ⟨tb_mem 892 (by decide +kernel) (by decide +kernel), tb_mem 73 (by decide +kernel) (by decide +kernel), ⟨tb_mem 891 (by decide +kernel) (by decide +kernel), tb_mem 47 (by decide +kernel) (by decide +kernel)⟩, by decide +kernel, by decide +kernel⟩
set_option maxRecDepth 20000 in
theorem kC_X7_stages : mCal yX7_stages cX7_stages 2 (some .int) 1 := ⟨tb_mem 896 (by decide +kernel) (by decide +kernel), tb_mem 73 (by decide +kernel) (by decide +kernel), ⟨tb_mem 894 (by decide +kernel) (by decide +kernel), tb_mem 895 (by decide +kernel) (by decide +kernel)⟩, by decide +kernel, by decide +kernel⟩
set_option maxRecDepth 20000 in
theorem kC_X7_stageMany : mCal yX7_stageMany cX7_stageMany 3 (some .int) 0 := ⟨tb_mem 901 (by decide +kernel) (by decide +kernel), tb_mem 73 (by decide +kernel) (by decide +kernel), ⟨tb_mem 900 (by decide +kernel) (by decide +kernel), tb_mem 48 (by decide +kernel) (by decide +kernel)⟩, by decide +kernel, by decide +kernel⟩
set_option maxRecDepth 20000 in
theorem kC_X7_widest : mCal yX7_widest cX7_widest 3 (some .int) 0 := ⟨tb_mem 905 (by decide +kernel) (by decide +kernel), tb_mem 73 (by decide +kernel) (by decide +kernel), ⟨tb_mem 904 (by decide +kernel) (by decide +kernel), tb_mem 49 (by decide +kernel) (by decide +kernel)⟩, by decide +kernel, by decide +kernel⟩
set_option maxRecDepth 20000 in
theorem kC_X7_callsAt : mCal yX7_callsAt cX7_callsAt 4 (some .int) 1 := ⟨tb_mem 909 (by decide +kernel) (by decide +kernel), tb_mem 73 (by decide +kernel) (by decide +kernel), ⟨tb_mem 908 (by decide +kernel) (by decide +kernel), tb_mem 50 (by decide +kernel) (by decide +kernel)⟩, by decide +kernel, by decide +kernel⟩
set_option maxRecDepth 20000 in
theorem kC_X7_single : mCalS yX7_single cX7_single 6 (some .int) 2 := ⟨tb_mem 912 (by decide +kernel) (by decide +kernel), tb_mem 73 (by decide +kernel) (by decide +kernel), tb_mem 911 (by decide +kernel) (by decide +kernel), by decide +kernel, by decide +kernel⟩
set_option maxRecDepth 20000 in
theorem kC_X7_freePairs : mCal yX7_freePairs cX7_freePairs 4 (some .int) 0 := ⟨tb_mem 917 (by decide +kernel) (by decide +kernel), tb_mem 73 (by decide +kernel) (by decide +kernel), ⟨tb_mem 916 (by decide +kernel) (by decide +kernel), tb_mem 51 (by decide +kernel) (by decide +kernel)⟩, by decide +kernel, by decide +kernel⟩
set_option maxRecDepth 20000 in
theorem kC_X7_isNormal : mCal yX7_isNormal cX7_isNormal 3 (some .int) 0 := ⟨tb_mem 921 (by decide +kernel) (by decide +kernel), tb_mem 73 (by decide +kernel) (by decide +kernel), ⟨tb_mem 920 (by decide +kernel) (by decide +kernel), tb_mem 52 (by decide +kernel) (by decide +kernel)⟩, by decide +kernel, by decide +kernel⟩
set_option maxRecDepth 20000 in
theorem kC_X7_compared : mCal yX7_compared cX7_compared 4 (some .int) 0 := ⟨tb_mem 925 (by decide +kernel) (by decide +kernel), tb_mem 73 (by decide +kernel) (by decide +kernel), ⟨tb_mem 924 (by decide +kernel) (by decide +kernel), tb_mem 53 (by decide +kernel) (by decide +kernel)⟩, by decide +kernel, by decide +kernel⟩
set_option maxRecDepth 20000 in
theorem kC_X7_layNormal : mCal yX7_layNormal cX7_layNormal 2 none 0 := ⟨tb_mem 929 (by decide +kernel) (by decide +kernel), tb_mem 73 (by decide +kernel) (by decide +kernel), ⟨tb_mem 928 (by decide +kernel) (by decide +kernel), tb_mem 54 (by decide +kernel) (by decide +kernel)⟩, by decide +kernel, by decide +kernel⟩
set_option maxRecDepth 20000 in
theorem kC_X7_hold : mCal yX7_hold cX7_hold 2 none 0 := ⟨tb_mem 933 (by decide +kernel) (by decide +kernel), tb_mem 73 (by decide +kernel) (by decide +kernel), ⟨tb_mem 932 (by decide +kernel) (by decide +kernel), tb_mem 55 (by decide +kernel) (by decide +kernel)⟩, by decide +kernel, by decide +kernel⟩
set_option maxRecDepth 20000 in
theorem kC_X7_giveBack : mCal yX7_giveBack cX7_giveBack 2 none 0 := ⟨tb_mem 937 (by decide +kernel) (by decide +kernel), tb_mem 73 (by decide +kernel) (by decide +kernel), ⟨tb_mem 936 (by decide +kernel) (by decide +kernel), tb_mem 56 (by decide +kernel) (by decide +kernel)⟩, by decide +kernel, by decide +kernel⟩
set_option maxRecDepth 20000 in
theorem kC_X7_run : mCal yX7_run cX7_run 3 (some .int) 2 := ⟨tb_mem 941 (by decide +kernel) (by decide +kernel), tb_mem 73 (by decide +kernel) (by decide +kernel), ⟨tb_mem 939 (by decide +kernel) (by decide +kernel), tb_mem 940 (by decide +kernel) (by decide +kernel)⟩, by decide +kernel, by decide +kernel⟩
set_option maxRecDepth 20000 in
theorem kC_X7_isRun : mCal yX7_isRun cX7_isRun 5 (some .boolean) 1 := ⟨tb_mem 947 (by decide +kernel) (by decide +kernel), tb_mem 73 (by decide +kernel) (by decide +kernel), ⟨tb_mem 946 (by decide +kernel) (by decide +kernel), tb_mem 57 (by decide +kernel) (by decide +kernel)⟩, by decide +kernel, by decide +kernel⟩
set_option maxRecDepth 20000 in
theorem kC_X7_kth : mCal yX7_kth cX7_kth 7 (some .int) 2 := ⟨tb_mem 951 (by decide +kernel) (by decide +kernel), tb_mem 73 (by decide +kernel) (by decide +kernel), ⟨tb_mem 950 (by decide +kernel) (by decide +kernel), tb_mem 58 (by decide +kernel) (by decide +kernel)⟩, by decide +kernel, by decide +kernel⟩
set_option maxRecDepth 20000 in
theorem kC_X7_doCall : mCal yX7_doCall cX7_doCall 4 (some .int) 1 := ⟨tb_mem 955 (by decide +kernel) (by decide +kernel), tb_mem 73 (by decide +kernel) (by decide +kernel), ⟨tb_mem 954 (by decide +kernel) (by decide +kernel), tb_mem 59 (by decide +kernel) (by decide +kernel)⟩, by decide +kernel, by decide +kernel⟩
set_option maxRecDepth 20000 in
theorem kC_X7_push : mCal yX7_push cX7_push 3 none 2 := ⟨tb_mem 959 (by decide +kernel) (by decide +kernel), tb_mem 73 (by decide +kernel) (by decide +kernel), ⟨tb_mem 958 (by decide +kernel) (by decide +kernel), tb_mem 60 (by decide +kernel) (by decide +kernel)⟩, by decide +kernel, by decide +kernel⟩
set_option maxRecDepth 20000 in
theorem kC_X7_isThrowing : mCal yX7_isThrowing cX7_isThrowing 1 (some .boolean) 0 := ⟨tb_mem 963 (by decide +kernel) (by decide +kernel), tb_mem 73 (by decide +kernel) (by decide +kernel), ⟨tb_mem 962 (by decide +kernel) (by decide +kernel), tb_mem 61 (by decide +kernel) (by decide +kernel)⟩, by decide +kernel, by decide +kernel⟩
set_option maxRecDepth 20000 in
theorem kC_X7_thrower : mCal yX7_thrower cX7_thrower 3 (some .int) 2 := ⟨tb_mem 967 (by decide +kernel) (by decide +kernel), tb_mem 73 (by decide +kernel) (by decide +kernel), ⟨tb_mem 965 (by decide +kernel) (by decide +kernel), tb_mem 966 (by decide +kernel) (by decide +kernel)⟩, by decide +kernel, by decide +kernel⟩
set_option maxRecDepth 20000 in
theorem kC_X7_commit : mCal yX7_commit cX7_commit 2 (some .int) 0 := ⟨tb_mem 971 (by decide +kernel) (by decide +kernel), tb_mem 73 (by decide +kernel) (by decide +kernel), ⟨tb_mem 969 (by decide +kernel) (by decide +kernel), tb_mem 970 (by decide +kernel) (by decide +kernel)⟩, by decide +kernel, by decide +kernel⟩
set_option maxRecDepth 20000 in
theorem kC_X7_image : mCal yX7_image cX7_image 2 (some .int) 1 := ⟨tb_mem 975 (by decide +kernel) (by decide +kernel), tb_mem 73 (by decide +kernel) (by decide +kernel), ⟨tb_mem 973 (by decide +kernel) (by decide +kernel), tb_mem 974 (by decide +kernel) (by decide +kernel)⟩, by decide +kernel, by decide +kernel⟩
set_option maxRecDepth 20000 in
theorem kC_X7_passAll : mCal yX7_passAll cX7_passAll 1 none 0 := ⟨tb_mem 979 (by decide +kernel) (by decide +kernel), tb_mem 73 (by decide +kernel) (by decide +kernel), ⟨tb_mem 978 (by decide +kernel) (by decide +kernel), tb_mem 62 (by decide +kernel) (by decide +kernel)⟩, by decide +kernel, by decide +kernel⟩
set_option maxRecDepth 20000 in
theorem kC_X7_passRow : mCal yX7_passRow cX7_passRow 4 none 2 := ⟨tb_mem 983 (by decide +kernel) (by decide +kernel), tb_mem 73 (by decide +kernel) (by decide +kernel), ⟨tb_mem 982 (by decide +kernel) (by decide +kernel), tb_mem 63 (by decide +kernel) (by decide +kernel)⟩, by decide +kernel, by decide +kernel⟩
set_option maxRecDepth 20000 in
theorem kC_X7_restore : mCal yX7_restore cX7_restore 2 (some .int) 1 := ⟨tb_mem 987 (by decide +kernel) (by decide +kernel), tb_mem 73 (by decide +kernel) (by decide +kernel), ⟨tb_mem 985 (by decide +kernel) (by decide +kernel), tb_mem 986 (by decide +kernel) (by decide +kernel)⟩, by decide +kernel, by decide +kernel⟩
set_option maxRecDepth 20000 in
theorem kC_X7_count : mCal yX7_count cX7_count 3 (some .int) 1 := ⟨tb_mem 991 (by decide +kernel) (by decide +kernel), tb_mem 73 (by decide +kernel) (by decide +kernel), ⟨tb_mem 989 (by decide +kernel) (by decide +kernel), tb_mem 990 (by decide +kernel) (by decide +kernel)⟩, by decide +kernel, by decide +kernel⟩
set_option maxRecDepth 20000 in
theorem kC_X7_statementsOf : mCal yX7_statementsOf cX7_statementsOf 3 (some .int) 1 := ⟨tb_mem 997 (by decide +kernel) (by decide +kernel), tb_mem 73 (by decide +kernel) (by decide +kernel), ⟨tb_mem 996 (by decide +kernel) (by decide +kernel), tb_mem 64 (by decide +kernel) (by decide +kernel)⟩, by decide +kernel, by decide +kernel⟩
set_option maxRecDepth 20000 in
theorem kN_X7_77 : Cond.constantLong RX7 77 5 ∈ TB := tb_mem 728 (by decide +kernel) (by decide +kernel)
set_option maxRecDepth 20000 in
theorem kN_X7_91 : Cond.constantLong RX7 91 33 ∈ TB := tb_mem 732 (by decide +kernel) (by decide +kernel)
set_option maxRecDepth 20000 in
theorem kN_X7_93 : Cond.constantLong RX7 93 126 ∈ TB := tb_mem 733 (by decide +kernel) (by decide +kernel)
set_option maxRecDepth 20000 in
theorem kN_X7_85 : Cond.constantLong RX7 85 17 ∈ TB := tb_mem 799 (by decide +kernel) (by decide +kernel)
set_option maxRecDepth 20000 in
theorem kN_X7_165 : Cond.constantLong RX7 165 99 ∈ TB := tb_mem 800 (by decide +kernel) (by decide +kernel)
set_option maxRecDepth 20000 in
theorem kN_X7_83 : Cond.constantLong RX7 83 11 ∈ TB := tb_mem 812 (by decide +kernel) (by decide +kernel)
set_option maxRecDepth 20000 in
theorem kN_X7_192 : Cond.constantLong RX7 192 3 ∈ TB := tb_mem 813 (by decide +kernel) (by decide +kernel)
set_option maxRecDepth 20000 in
theorem kN_X7_248 : Cond.constantLong RX7 248 6 ∈ TB := tb_mem 897 (by decide +kernel) (by decide +kernel)
set_option maxRecDepth 20000 in
theorem kN_X7_289 : Cond.constantLong RX7 289 2 ∈ TB := tb_mem 942 (by decide +kernel) (by decide +kernel)
set_option maxRecDepth 20000 in
theorem kN_X7_291 : Cond.constantLong RX7 291 19 ∈ TB := tb_mem 943 (by decide +kernel) (by decide +kernel)
set_option maxRecDepth 20000 in
theorem kN_X7_308 : Cond.constantLong RX7 308 10 ∈ TB := tb_mem 992 (by decide +kernel) (by decide +kernel)
set_option maxRecDepth 20000 in
theorem kN_X7_310 : Cond.constantLong RX7 310 35 ∈ TB := tb_mem 993 (by decide +kernel) (by decide +kernel)
set_option maxRecDepth 20000 in
theorem kN_X7_235 : Cond.constant RX7 235 8388608 ∈ TB := tb_mem 913 (by decide +kernel) (by decide +kernel)
end
section
def okX4 (q : Nat) : Prop := mSh[q]? = some (.inr (.inr (4, [some (q + 1), some (q + 2), none]))) ∧ mSh[q + 1]? = some (.inl (0, 16)) ∧ mSh[q + 2]? = some (.inl (0, 16))
def okX5 (q : Nat) : Prop := mSh[q]? = some (.inr (.inr (5, [some (q + 1), none, none, some (q + 2), some (q + 3), some (q + 4), some (q + 5), none, some (q + 6), some (q + 7), none, none]))) ∧ mSh[q + 1]? = some (.inl (0, 30)) ∧ mSh[q + 2]? = some (.inl (0, 15)) ∧ mSh[q + 3]? = some (.inl (0, 15)) ∧ mSh[q + 4]? = some (.inl (0, 15)) ∧ mSh[q + 5]? = some (.inl (0, 15)) ∧ mSh[q + 6]? = some (.inl (0, 30)) ∧ mSh[q + 7]? = some (.inl (0, 30))
def okX1 (q : Nat) : Prop := mSh[q]? = some (.inr (.inr (1, [some (q + 1), some (q + 2), none]))) ∧ mSh[q + 1]? = some (.inl (0, 18)) ∧ okX4 (q + 2)
def okX2 (q : Nat) : Prop := mSh[q]? = some (.inr (.inr (2, [some (q + 1), some (q + 4), some (q + 5), some (q + 6), none, none]))) ∧ okX4 (q + 1) ∧ mSh[q + 4]? = some (.inl (0, 16)) ∧ mSh[q + 5]? = some (.inl (0, 16)) ∧ mSh[q + 6]? = some (.inl (0, 16))
def okI (a : Nat) : Prop := mSh[a]? = some (.inl (0, mLen a))
theorem ok4_9 : okX4 9 := ⟨rfl, rfl, rfl⟩
theorem ok2_13 : okX2 13 := ⟨rfl, ⟨rfl, rfl, rfl⟩, rfl, rfl, rfl⟩
theorem ok2_20 : okX2 20 := ⟨rfl, ⟨rfl, rfl, rfl⟩, rfl, rfl, rfl⟩
def rtn (i : Int32) : Nat := 30 + 8 * i.toNatClampNeg
def img (i : Int32) : Nat := 78 + 5 * i.toNatClampNeg
theorem mIx_lt {i : Int32} {n : Nat} (h : mIx i n = true) : i.toNatClampNeg < n := by
  unfold mIx at h
  rw [Bool.and_eq_true, decide_eq_true_eq] at h
  exact h.2
theorem rtn_ok {i : Int32} (h : mIx i 6 = true) : okX5 (rtn i) := by
  have h1 := mIx_lt h
  unfold rtn
  generalize i.toNatClampNeg = j at h1 ⊢
  match j, h1 with
  | 0, _ => exact ⟨rfl, rfl, rfl, rfl, rfl, rfl, rfl, rfl⟩
  | 1, _ => exact ⟨rfl, rfl, rfl, rfl, rfl, rfl, rfl, rfl⟩
  | 2, _ => exact ⟨rfl, rfl, rfl, rfl, rfl, rfl, rfl, rfl⟩
  | 3, _ => exact ⟨rfl, rfl, rfl, rfl, rfl, rfl, rfl, rfl⟩
  | 4, _ => exact ⟨rfl, rfl, rfl, rfl, rfl, rfl, rfl, rfl⟩
  | 5, _ => exact ⟨rfl, rfl, rfl, rfl, rfl, rfl, rfl, rfl⟩
  | n + 6, h => omega
theorem rtn_at {i : Int32} (h : mIx i 6 = true) : ([30, 38, 46, 54, 62, 70] : List Nat)[i.toNatClampNeg]? = some (rtn i) := by
  have h1 := mIx_lt h
  unfold rtn
  generalize i.toNatClampNeg = j at h1 ⊢
  match j, h1 with
  | 0, _ => rfl
  | 1, _ => rfl
  | 2, _ => rfl
  | 3, _ => rfl
  | 4, _ => rfl
  | 5, _ => rfl
  | n + 6, h => omega
theorem img_ok {i : Int32} (h : mIx i 2 = true) : okX1 (img i) := by
  have h1 := mIx_lt h
  unfold img
  generalize i.toNatClampNeg = j at h1 ⊢
  match j, h1 with
  | 0, _ => exact ⟨rfl, rfl, ⟨rfl, rfl, rfl⟩⟩
  | 1, _ => exact ⟨rfl, rfl, ⟨rfl, rfl, rfl⟩⟩
  | n + 2, h => omega
theorem img_at {i : Int32} (h : mIx i 2 = true) : ([78, 83] : List Nat)[i.toNatClampNeg]? = some (img i) := by
  have h1 := mIx_lt h
  unfold img
  generalize i.toNatClampNeg = j at h1 ⊢
  match j, h1 with
  | 0, _ => rfl
  | 1, _ => rfl
  | n + 2, h => omega
def mS (v : MU) (k : MU → mR) : mR := k v
theorem mS_some {v : MU} {k : MU → mR} {r : Int32 × MU} (h : mS v k = some r) : ∃ w : MU, v = w ∧ k w = some r := ⟨v, rfl, h⟩
def FU : Nat := 5000
theorem mOK.dis {cc : ByteArray} {own : String} {nL fr lo : Nat} {C : mCtx} (h : mOK cc own nL fr lo C) : mDis (cS C) := by
  obtain ⟨p, l, e, R, s, m, args, below, meth, c, Q, dC, dI, dA, as⟩ := C
  exact h.2.2.2.2.2.2.1
theorem tab_out {x : Int32} {a : Nat} (h : ∀ k : Nat, k ≤ a → ¬ x = nI k) (ha : a < 2 ^ 30) : x.toInt < 0 ∨ (a : Int) < x.toInt := by
  by_cases h1 : x.toInt < 0
  · exact Or.inl h1
  · by_cases h2 : (a : Int) < x.toInt
    · exact Or.inr h2
    · exfalso
      have h3 : ¬ x < 0 := fun q => h1 (by simpa using Int32.lt_iff_toInt_lt.mp q)
      obtain ⟨j, hj, rfl⟩ := nI_of h3
      rw [nI_toInt hj] at h2
      exact h j (by omega) rfl

theorem sh_0 : mSh[0]? = some (.inr (.inr (6, [some 1, some 2, some 8, some 9, some 12, some 13, some 20, some 27]))) := by decide +kernel
theorem sh_1 : mSh[1]? = some (.inr (.inl (2, [30, 38, 46, 54, 62, 70]))) := by decide +kernel
theorem sh_2 : mSh[2]? = some (.inr (.inr (0, [some 3, some 4, some 5, some 6, some 7, none]))) := by decide +kernel
theorem sh_3 : mSh[3]? = some (.inl (0, 72)) := by decide +kernel
theorem sh_4 : mSh[4]? = some (.inl (0, 72)) := by decide +kernel
theorem sh_5 : mSh[5]? = some (.inl (0, 72)) := by decide +kernel
theorem sh_6 : mSh[6]? = some (.inl (0, 72)) := by decide +kernel
theorem sh_7 : mSh[7]? = some (.inl (1, 6)) := by decide +kernel
theorem sh_8 : mSh[8]? = some (.inl (0, 18)) := by decide +kernel
theorem sh_12 : mSh[12]? = some (.inr (.inl (3, [78, 83]))) := by decide +kernel
theorem sh_27 : mSh[27]? = some (.inr (.inr (3, [some 28, some 29, none, none, none]))) := by decide +kernel
theorem sh_28 : mSh[28]? = some (.inl (0, 18)) := by decide +kernel
theorem sh_29 : mSh[29]? = some (.inl (0, 16)) := by decide +kernel
theorem sh_88 : mSh[88]? = some (.inr (.inr (7, [some 89, some 90, some 91, some 92, some 93, none, none, none, none, none, none, none, none, none, some 94, some 95, some 96, some 97, some 98, some 99, none, some 100, some 101, some 102, some 103, some 104, none, some 105, some 106, some 107, none, none, some 108, none, none, some 109, some 110, none, none]))) := by decide +kernel
theorem sh_89 : mSh[89]? = some (.inl (0, 180)) := by decide +kernel
theorem sh_90 : mSh[90]? = some (.inl (0, 6)) := by decide +kernel
theorem sh_91 : mSh[91]? = some (.inl (0, 18)) := by decide +kernel
theorem sh_92 : mSh[92]? = some (.inl (0, 16)) := by decide +kernel
theorem sh_93 : mSh[93]? = some (.inl (0, 16)) := by decide +kernel
theorem sh_94 : mSh[94]? = some (.inl (0, 72)) := by decide +kernel
theorem sh_95 : mSh[95]? = some (.inl (0, 72)) := by decide +kernel
theorem sh_96 : mSh[96]? = some (.inl (0, 72)) := by decide +kernel
theorem sh_97 : mSh[97]? = some (.inl (0, 72)) := by decide +kernel
theorem sh_98 : mSh[98]? = some (.inl (0, 6)) := by decide +kernel
theorem sh_99 : mSh[99]? = some (.inl (0, 18)) := by decide +kernel
theorem sh_100 : mSh[100]? = some (.inl (0, 16)) := by decide +kernel
theorem sh_101 : mSh[101]? = some (.inl (0, 16)) := by decide +kernel
theorem sh_102 : mSh[102]? = some (.inl (0, 16)) := by decide +kernel
theorem sh_103 : mSh[103]? = some (.inl (0, 16)) := by decide +kernel
theorem sh_104 : mSh[104]? = some (.inl (0, 16)) := by decide +kernel
theorem sh_105 : mSh[105]? = some (.inl (0, 20)) := by decide +kernel
theorem sh_106 : mSh[106]? = some (.inl (0, 20)) := by decide +kernel
theorem sh_107 : mSh[107]? = some (.inl (0, 20)) := by decide +kernel
theorem sh_108 : mSh[108]? = some (.inl (0, 16)) := by decide +kernel
theorem sh_109 : mSh[109]? = some (.inl (0, 102)) := by decide +kernel
theorem sh_110 : mSh[110]? = some (.inl (1, 2)) := by decide +kernel
end
section
def irm (x y : Int32) : Int32 := x - x / y * y
def mNz (y : Int32) : Bool := !(decide (y = 0))
theorem mNz_ne {y : Int32} (h : mNz y = true) : ¬ y = 0 := by
  unfold mNz at h
  simpa using h
section zmo
variable {C : mCtx} {cc : ByteArray} {own : String} {nL fr lo : Nat} {u u' : MU} {pc : Nat} {L L' : List (Option Value)} {st : List Value}
theorem y_irem (hC : mOK cc own nL fr lo C) {x y : Int32} (hd : decode cc pc = .ok (.irem, 1)) (hne : ¬ y = 0) (kk : wat C u (pc + 1) L (.int (irm x y) :: st)) : wat C u pc L (.int y :: .int x :: st) := z_irem hC hd hne kk
theorem y_istore_n (hC : mOK cc own nL fr lo C) {k : Fin 4} {i : Nat} {x : Int32} (L' : List (Option Value)) (hd : decode cc pc = .ok (.istore_n k, 1)) (hi : (k : Nat) = i) (hc : mOne L = true) (hn : i < L.length) (hn2 : i < nL) (hL : L.set i (some (.int x)) = L') (kk : wat C u (pc + 1) L' st) : wat C u pc L (.int x :: st) := z_istore_n hC hd hi hc hn hn2 (hL ▸ kk)
theorem y_istore (hC : mOK cc own nL fr lo C) {i : Nat} {x : Int32} (L' : List (Option Value)) (hd : decode cc pc = .ok (.istore i, 2)) (hc : mOne L = true) (hn : i < L.length) (hn2 : i < nL) (hL : L.set i (some (.int x)) = L') (kk : wat C u (pc + 2) L' st) : wat C u pc L (.int x :: st) := z_istore hC hd hc hn hn2 (hL ▸ kk)
theorem y_astore_n (hC : mOK cc own nL fr lo C) {k : Fin 4} {i q : Nat} (L' : List (Option Value)) (hd : decode cc pc = .ok (.astore_n k, 1)) (hi : (k : Nat) = i) (hc : mOne L = true) (hn : i < L.length) (hn2 : i < nL) (hL : L.set i (some (.ref (cS C q))) = L') (kk : wat C u (pc + 1) L' st) : wat C u pc L (.ref (cS C q) :: st) := z_astore_n hC hd hi hc hn hn2 (hL ▸ kk)
theorem y_astore (hC : mOK cc own nL fr lo C) {i q : Nat} (L' : List (Option Value)) (hd : decode cc pc = .ok (.astore i, 2)) (hc : mOne L = true) (hn : i < L.length) (hn2 : i < nL) (hL : L.set i (some (.ref (cS C q))) = L') (kk : wat C u (pc + 2) L' st) : wat C u pc L (.ref (cS C q) :: st) := z_astore hC hd hc hn hn2 (hL ▸ kk)
theorem y_iinc (hC : mOK cc own nL fr lo C) {i : Nat} {n : Int} {x : Int32} (v : Int32) (L' : List (Option Value)) (hd : decode cc pc = .ok (.iinc i n, 3)) (hl : L[i]? = some (some (.int x))) (hv : x + Int32.ofInt n = v) (hc : mOne L = true) (hn2 : i < nL) (hL : L.set i (some (.int v)) = L') (kk : wat C u (pc + 3) L' st) : wat C u pc L st := z_iinc hC hd hl hv hc hn2 (hL ▸ kk)
theorem y_putI (hC : mOK cc own nL fr lo C) {idx ci k q : Nat} {fl : List (Option Nat)} {v : Int32} (hf : mFldP own idx ci k .int) (hs : mSh[q]? = some (.inr (.inr (ci, fl)))) (hfl : fl[k]? = some none) (hd : decode cc pc = .ok (.putfield idx, 3)) (hu : mup u q k v = u') (kk : wat C u' (pc + 3) L st) : wat C u pc L (.int v :: .ref (cS C q) :: st) := z_putI hC hf hs hfl hd (hu ▸ kk)
theorem y_putZ (hC : mOK cc own nL fr lo C) {idx ci k q : Nat} {fl : List (Option Nat)} {v : Int32} (hz : mZ v = true) (hf : mFldP own idx ci k .boolean) (hs : mSh[q]? = some (.inr (.inr (ci, fl)))) (hfl : fl[k]? = some none) (hd : decode cc pc = .ok (.putfield idx, 3)) (hu : mup u q k v = u') (kk : wat C u' (pc + 3) L st) : wat C u pc L (.int v :: .ref (cS C q) :: st) := z_putZ hC hz hf hs hfl hd (hu ▸ kk)
theorem y_iast (hC : mOK cc own nL fr lo C) {q n : Nat} {i x : Int32} (hs : mSh[q]? = some (.inl (0, n))) (hi : mIx i n = true) (hd : decode cc pc = .ok (.iastore, 1)) (hu : mup u q i.toNatClampNeg x = u') (kk : wat C u' (pc + 1) L st) : wat C u pc L (.int x :: .int i :: .ref (cS C q) :: st) := z_iast hC hs hi hd (hu ▸ kk)
theorem y_zast (hC : mOK cc own nL fr lo C) {q n : Nat} {i x : Int32} (hz : mZ x = true) (hs : mSh[q]? = some (.inl (1, n))) (hi : mIx i n = true) (hd : decode cc pc = .ok (.bastore, 1)) (hu : mup u q i.toNatClampNeg x = u') (kk : wat C u' (pc + 1) L st) : wat C u pc L (.int x :: .int i :: .ref (cS C q) :: st) := z_zast hC hz hs hi hd (hu ▸ kk)
theorem y_copy (hC : mOK cc own nL fr lo C) {idx q q' n0 n1 : Nat} {sp dp n : Int32} (hw : Cond.methodLink own idx arraycopyName ∈ TB ∧ Cond.native arraycopyName ∈ TB ∧ Cond.static arraycopyName ∈ TB ∧ Cond.initialized "java/lang/System" ∈ TB) (hs : mSh[q]? = some (.inl (0, n0))) (hs' : mSh[q']? = some (.inl (0, n1))) (h1 : ¬ sp < 0) (h2 : ¬ dp < 0) (h3 : ¬ n < 0) (h4 : sp.toNatClampNeg + n.toNatClampNeg ≤ n0) (h5 : dp.toNatClampNeg + n.toNatClampNeg ≤ n1) (hfr : 1 ≤ fr) (hlo : (st.map fun v => v.category).sum + (nativeFrameWords "java/lang/System" "arraycopy" 5 + 11) ≤ lo) (hd : decode cc pc = .ok (.invokestatic idx, 3)) (hu : mrow u q' (va_cpy (u q) (u q') sp.toNatClampNeg dp.toNatClampNeg n.toNatClampNeg) = u') (kk : wat C u' (pc + 3) L st) : wat C u pc L (.int n :: .int dp :: .ref (cS C q') :: .int sp :: .ref (cS C q) :: st) := z_copy hC hw hs hs' h1 h2 h3 h4 h5 hfr hlo hd (hu ▸ kk)
end zmo
end
section
set_option maxRecDepth 100000 in
def f_X0_forget (u : MU) : mR := mS (mup u 2 5 0) (fun u1 => some (0, u1))
set_option maxRecDepth 100000 in
def b_X5_calleeBits_33 (k4 : Int32 → Int32 → MU → mR) (q0 : Nat) (x1 : Int32) (x2 : Int32) (u : MU) : mR := k4 x1 (x2 + 1) u
set_option maxRecDepth 100000 in
def b_X5_calleeBits_4 (k4 : Int32 → Int32 → MU → mR) (q0 : Nat) (x1 : Int32) (x2 : Int32) (u : MU) : mR := (if (u q0 7) ≤ x2 then some (x1, u) else gd (mIx x2 15) ((if (u (q0 + 2) x2.toNatClampNeg) = 3 then gd (mIx x2 15) (b_X5_calleeBits_33 k4 q0 (x1 ||| (1 <<< ((u (q0 + 4) x2.toNatClampNeg) &&& 31))) x2 u) else b_X5_calleeBits_33 k4 q0 x1 x2 u)))
set_option maxRecDepth 100000 in
def l_X5_calleeBits_4 (q0 : Nat) : Nat → Int32 → Int32 → MU → mR
  | 0, _, _, _ => none
  | n + 1, x1, x2, u => b_X5_calleeBits_4 (fun x1 x2 u => l_X5_calleeBits_4 q0 n x1 x2 u) q0 x1 x2 u
set_option maxRecDepth 100000 in
def f_X5_calleeBits (q0 : Nat) (u : MU) : mR := l_X5_calleeBits_4 q0 FU 0 0 u
set_option maxRecDepth 100000 in
def b_X0_knowsBits_28 (k2 : Int32 → MU → mR) (x1 : Int32) (x2 : Int32) (u : MU) : mR := k2 (x2 + 1) u
set_option maxRecDepth 100000 in
def b_X0_knowsBits_2 (k2 : Int32 → MU → mR) (x1 : Int32) (x2 : Int32) (u : MU) : mR := (if 6 ≤ x2 then some (1, u) else (if ((x1 >>> (x2 &&& 31)) &&& 1) = 1 then gd (mIx x2 6) ((if (u 7 x2.toNatClampNeg) = 0 then some (0, u) else b_X0_knowsBits_28 k2 x1 x2 u)) else b_X0_knowsBits_28 k2 x1 x2 u))
set_option maxRecDepth 100000 in
def l_X0_knowsBits_2 (x1 : Int32) : Nat → Int32 → MU → mR
  | 0, _, _ => none
  | n + 1, x2, u => b_X0_knowsBits_2 (fun x2 u => l_X0_knowsBits_2 x1 n x2 u) x1 x2 u
set_option maxRecDepth 100000 in
def f_X0_knowsBits (x1 : Int32) (u : MU) : mR := l_X0_knowsBits_2 x1 FU 0 u
set_option maxRecDepth 100000 in
def b_X0_findKnown_29 (k2 : Int32 → MU → mR) (x2 : Int32) (s2 : Int32) (s1 : Int32) (u : MU) : mR := gd (mZ s2) (gd (mIx s1 6) (mS (mup u 7 s1.toNatClampNeg s2) (fun u3 => k2 (x2 + 1) u3)))
set_option maxRecDepth 100000 in
def b_X0_findKnown_84 (k38 : Int32 → MU → mR) (k46 : Int32 → Int32 → MU → mR) (x2 : Int32) (x3 : Int32) (s2 : Int32) (s1 : Int32) (u : MU) : mR := gd (mZ s2) (gd (mIx s1 6) (mS (mup u 7 s1.toNatClampNeg s2) (fun u3 => k46 x2 (x3 + 1) u3)))
set_option maxRecDepth 100000 in
def b_X0_findKnown_83 (k38 : Int32 → MU → mR) (k46 : Int32 → Int32 → MU → mR) (x2 : Int32) (x3 : Int32) (s1 : Int32) (u : MU) : mR := b_X0_findKnown_84 k38 k46 x2 x3 0 s1 u
set_option maxRecDepth 100000 in
def b_X0_findKnown_46 (k38 : Int32 → MU → mR) (k46 : Int32 → Int32 → MU → mR) (x2 : Int32) (x3 : Int32) (u : MU) : mR := (if 6 ≤ x3 then k38 (x2 + 1) u else gd (mIx x3 6) ((if (u 7 x3.toNatClampNeg) = 0 then b_X0_findKnown_83 k38 k46 x2 x3 x3 u else gd (mIx x3 6) (mB (f_X5_calleeBits (rtn x3) u) (fun r5 u5 => mB (f_X0_knowsBits r5 u5) (fun r6 u6 => (if r6 = 0 then b_X0_findKnown_83 k38 k46 x2 x3 x3 u6 else b_X0_findKnown_84 k38 k46 x2 x3 1 x3 u6)))))))
set_option maxRecDepth 100000 in
def l_X0_findKnown_46 (k38 : Int32 → MU → mR) : Nat → Int32 → Int32 → MU → mR
  | 0, _, _, _ => none
  | n + 1, x2, x3, u => b_X0_findKnown_46 k38 (fun x2 x3 u => l_X0_findKnown_46 k38 n x2 x3 u) x2 x3 u
set_option maxRecDepth 100000 in
def b_X0_findKnown_38 (k38 : Int32 → MU → mR) (x2 : Int32) (u : MU) : mR := (if 6 ≤ x2 then some (0, u) else l_X0_findKnown_46 k38 FU x2 0 u)
set_option maxRecDepth 100000 in
def l_X0_findKnown_38 : Nat → Int32 → MU → mR
  | 0, _, _ => none
  | n + 1, x2, u => b_X0_findKnown_38 (fun x2 u => l_X0_findKnown_38 n x2 u) x2 u
set_option maxRecDepth 100000 in
def b_X0_findKnown_2 (k2 : Int32 → MU → mR) (x2 : Int32) (u : MU) : mR := (if 6 ≤ x2 then l_X0_findKnown_38 FU 0 u else gd (mIx x2 6) ((if (u (rtn x2) 2) = ((-6)) then b_X0_findKnown_29 k2 x2 1 x2 u else b_X0_findKnown_29 k2 x2 0 x2 u)))
set_option maxRecDepth 100000 in
def l_X0_findKnown_2 : Nat → Int32 → MU → mR
  | 0, _, _ => none
  | n + 1, x2, u => b_X0_findKnown_2 (fun x2 u => l_X0_findKnown_2 n x2 u) x2 u
set_option maxRecDepth 100000 in
def f_X0_findKnown (u : MU) : mR := l_X0_findKnown_2 FU 0 u
set_option maxRecDepth 100000 in
def f_X6_placeOf (x0 : Int32) (x1 : Int32) (u : MU) : mR := (if 18 ≤ x0 then some (6 + (irm ((x0 - 18) + x1) 12), u) else some (x0, u))
set_option maxRecDepth 100000 in
def b_X0_startWithOwn_165 (k53 : Int32 → Int32 → MU → mR) (q1 : Nat) (x3 : Int32) (x4 : Int32) (x5 : Int32) (u : MU) : mR := k53 x4 (x5 + 1) u
set_option maxRecDepth 100000 in
def b_X0_startWithOwn_217 (k174 : Int32 → Int32 → MU → mR) (q1 : Nat) (x3 : Int32) (x4 : Int32) (x5 : Int32) (u : MU) : mR := k174 x4 (x5 + 1) u
set_option maxRecDepth 100000 in
def b_X0_startWithOwn_174 (k174 : Int32 → Int32 → MU → mR) (q1 : Nat) (x3 : Int32) (x4 : Int32) (x5 : Int32) (u : MU) : mR := (if (u q1 10) ≤ x5 then some (0, u) else gd (mIx x5 30) ((if (u (q1 + 6) x5.toNatClampNeg) = 2 then gd (mIx x4 72) (gd (mIx x5 30) (mB (f_X6_placeOf (u (q1 + 7) x5.toNatClampNeg) x3 u) (fun r6 u6 => gd (mIx x4 72) (mS (mup u6 3 x4.toNatClampNeg ((u 3 x4.toNatClampNeg) ||| (1 <<< (r6 &&& 31)))) (fun u8 => b_X0_startWithOwn_217 k174 q1 x3 x4 x5 u8))))) else b_X0_startWithOwn_217 k174 q1 x3 x4 x5 u)))
set_option maxRecDepth 100000 in
def l_X0_startWithOwn_174 (q1 : Nat) (x3 : Int32) : Nat → Int32 → Int32 → MU → mR
  | 0, _, _, _ => none
  | n + 1, x4, x5, u => b_X0_startWithOwn_174 (fun x4 x5 u => l_X0_startWithOwn_174 q1 x3 n x4 x5 u) q1 x3 x4 x5 u
set_option maxRecDepth 100000 in
def b_X0_startWithOwn_53 (k53 : Int32 → Int32 → MU → mR) (q1 : Nat) (x3 : Int32) (x4 : Int32) (x5 : Int32) (u : MU) : mR := (if (u q1 7) ≤ x5 then l_X0_startWithOwn_174 q1 x3 FU x4 0 u else gd (mIx x5 15) (mB (f_X6_placeOf (u (q1 + 3) x5.toNatClampNeg) x3 u) (fun r3 u3 => gd (mIx x5 15) ((if (u3 (q1 + 2) x5.toNatClampNeg) = 0 then gd (mIx x4 72) (gd (mIx x4 72) (mS (mup u3 4 x4.toNatClampNeg ((u3 4 x4.toNatClampNeg) ||| (1 <<< (r3 &&& 31)))) (fun u8 => b_X0_startWithOwn_165 k53 q1 x3 x4 x5 u8))) else (if (u3 (q1 + 2) x5.toNatClampNeg) = 1 then gd (mIx x4 72) (gd (mIx x4 72) (mS (mup u3 5 x4.toNatClampNeg ((u3 5 x4.toNatClampNeg) ||| (1 <<< (r3 &&& 31)))) (fun u12 => b_X0_startWithOwn_165 k53 q1 x3 x4 x5 u12))) else (if (u3 (q1 + 2) x5.toNatClampNeg) = 2 then gd (mIx x4 72) (gd (mIx x4 72) (mS (mup u3 3 x4.toNatClampNeg ((u3 3 x4.toNatClampNeg) ||| (1 <<< (r3 &&& 31)))) (fun u16 => gd (mIx x4 72) (mS (mup u16 6 x4.toNatClampNeg 1) (fun u18 => b_X0_startWithOwn_165 k53 q1 x3 x4 x5 u18))))) else b_X0_startWithOwn_165 k53 q1 x3 x4 x5 u3)))))))
set_option maxRecDepth 100000 in
def l_X0_startWithOwn_53 (q1 : Nat) (x3 : Int32) : Nat → Int32 → Int32 → MU → mR
  | 0, _, _, _ => none
  | n + 1, x4, x5, u => b_X0_startWithOwn_53 (fun x4 x5 u => l_X0_startWithOwn_53 q1 x3 n x4 x5 u) q1 x3 x4 x5 u
set_option maxRecDepth 100000 in
def f_X0_startWithOwn (q1 : Nat) (x2 : Int32) (x3 : Int32) (u : MU) : mR := gd (mIx ((x2 * 12) + x3) 72) (mS (mup u 3 ((x2 * 12) + x3).toNatClampNeg 0) (fun u2 => gd (mIx ((x2 * 12) + x3) 72) (mS (mup u2 4 ((x2 * 12) + x3).toNatClampNeg 0) (fun u4 => gd (mIx ((x2 * 12) + x3) 72) (mS (mup u4 5 ((x2 * 12) + x3).toNatClampNeg 0) (fun u6 => gd (mIx ((x2 * 12) + x3) 72) (mS (mup u6 6 ((x2 * 12) + x3).toNatClampNeg 0) (fun u8 => gd (mIx x2 6) ((if (u8 7 x2.toNatClampNeg) = 0 then some (0, u8) else l_X0_startWithOwn_53 q1 x3 FU ((x2 * 12) + x3) 0 u8))))))))))
set_option maxRecDepth 100000 in
def f_X0_take (x1 : Int32) (x2 : Int32) (u : MU) : mR := gd (mIx x2 72) (gd (mIx x1 72) (gd (mIx x2 72) (gd (mIx x1 72) (gd (mIx x2 72) (gd (mIx x1 72) (gd (mIx x2 72) (gd (mIx x1 72) (gd (mIx x1 72) (gd (mIx x2 72) (gd (mIx x1 72) (mS (mup u 3 x1.toNatClampNeg ((u 3 x1.toNatClampNeg) ||| (u 3 x2.toNatClampNeg))) (fun u12 => gd (mIx x1 72) (gd (mIx x2 72) (gd (mIx x1 72) (mS (mup u12 4 x1.toNatClampNeg ((u12 4 x1.toNatClampNeg) ||| (u12 4 x2.toNatClampNeg))) (fun u16 => gd (mIx x1 72) (gd (mIx x2 72) (gd (mIx x1 72) (mS (mup u16 5 x1.toNatClampNeg ((u16 5 x1.toNatClampNeg) ||| (u16 5 x2.toNatClampNeg))) (fun u20 => gd (mIx x1 72) (gd (mIx x2 72) (gd (mIx x1 72) (mS (mup u20 6 x1.toNatClampNeg ((u20 6 x1.toNatClampNeg) ||| (u20 6 x2.toNatClampNeg))) (fun u24 => (if (((((u 3 x2.toNatClampNeg) &&& ((u 3 x1.toNatClampNeg) ^^^ ((-1)))) ||| ((u 4 x2.toNatClampNeg) &&& ((u 4 x1.toNatClampNeg) ^^^ ((-1))))) ||| ((u 5 x2.toNatClampNeg) &&& ((u 5 x1.toNatClampNeg) ^^^ ((-1))))) ||| ((u 6 x2.toNatClampNeg) &&& ((u 6 x1.toNatClampNeg) ^^^ ((-1))))) = 0 then some (0, u24) else some (1, u24))))))))))))))))))))))))))
set_option maxRecDepth 100000 in
def b_X0_takeFromCallees_75 (k6 : Int32 → Int32 → MU → mR) (q1 : Nat) (x2 : Int32) (x3 : Int32) (x4 : Int32) (x5 : Int32) (u : MU) : mR := k6 x4 (x5 + 1) u
set_option maxRecDepth 100000 in
def b_X0_takeFromCallees_73 (k6 : Int32 → Int32 → MU → mR) (q1 : Nat) (x2 : Int32) (x3 : Int32) (x5 : Int32) (s0 : Int32) (u : MU) : mR := b_X0_takeFromCallees_75 k6 q1 x2 x3 s0 x5 u
set_option maxRecDepth 100000 in
def b_X0_takeFromCallees_68 (k6 : Int32 → Int32 → MU → mR) (q1 : Nat) (x2 : Int32) (x3 : Int32) (x5 : Int32) (u : MU) : mR := b_X0_takeFromCallees_73 k6 q1 x2 x3 x5 1 u
set_option maxRecDepth 100000 in
def b_X0_takeFromCallees_6 (k6 : Int32 → Int32 → MU → mR) (q1 : Nat) (x2 : Int32) (x3 : Int32) (x4 : Int32) (x5 : Int32) (u : MU) : mR := (if (u q1 7) ≤ x5 then gd (mZ x4) (some (x4, u)) else gd (mIx x5 15) ((if (u (q1 + 2) x5.toNatClampNeg) = 3 then gd (mIx x5 15) (mB (f_X6_placeOf (u (q1 + 3) x5.toNatClampNeg) x3 u) (fun r6 u6 => gd (mIx x5 15) (mB (f_X0_take x2 (((u6 (q1 + 4) x5.toNatClampNeg) * 12) + (r6 - 6)) u6) (fun r8 u8 => (if r8 = 0 then (if x4 = 0 then b_X0_takeFromCallees_73 k6 q1 x2 x3 x5 0 u8 else b_X0_takeFromCallees_68 k6 q1 x2 x3 x5 u8) else b_X0_takeFromCallees_68 k6 q1 x2 x3 x5 u8))))) else b_X0_takeFromCallees_75 k6 q1 x2 x3 x4 x5 u)))
set_option maxRecDepth 100000 in
def l_X0_takeFromCallees_6 (q1 : Nat) (x2 : Int32) (x3 : Int32) : Nat → Int32 → Int32 → MU → mR
  | 0, _, _, _ => none
  | n + 1, x4, x5, u => b_X0_takeFromCallees_6 (fun x4 x5 u => l_X0_takeFromCallees_6 q1 x2 x3 n x4 x5 u) q1 x2 x3 x4 x5 u
set_option maxRecDepth 100000 in
def f_X0_takeFromCallees (q1 : Nat) (x2 : Int32) (x3 : Int32) (u : MU) : mR := l_X0_takeFromCallees_6 q1 x2 x3 FU 0 0 u
end
section
set_option maxHeartbeats 4000000 in
set_option maxRecDepth 100000 in
theorem s_X0_forget_0 {C : mCtx} (hC : mOK cX0_forget RX0 1 0 0 C) {res : Int32 × MU} (hE : mEndV C res.2) (u : MU) (h : f_X0_forget u = some res) : wat C u 0 [some (.ref (cS C 2))] [] := by
  unfold f_X0_forget at h
  refine z_aload_n hC dX0_forget_0 rfl rfl ?_
  refine z_iconst (v := 0) hC dX0_forget_1 (by decide) ?_
  obtain ⟨u1, e1, h⟩ := mS_some h
  refine y_putZ hC rfl kP_X0_28 sh_2 rfl dX0_forget_2 e1 ?_
  obtain rfl := Option.some.inj h
  exact z_vret hC hE dX0_forget_5
theorem m_X0_forget {l : Launch} {dC : Nat → ClassId} {dI : Nat → Nat → Nat} {dA : Nat → ClassId} {as : Nat → Nat} (hD : mDis as) (u : MU) {r : Int32} {v : MU} (h : f_X0_forget u = some (r, v)) : mMV l dC dI dA as yX0_forget cX0_forget 1 0 0 [.ref (as 2)] u v := mMV.of RX0 [some (.ref (as 2))] hD (by decide +kernel) rfl (Nat.le_of_ble_eq_true rfl) rfl (fun C e1 e2 e3 e4 e5 hC hE => by subst e5; exact s_X0_forget_0 hC (res := (r, v)) hE u h)
set_option maxHeartbeats 4000000 in
set_option maxRecDepth 100000 in
theorem s_X5_calleeBits_33 {C : mCtx} (hC : mOK cX5_calleeBits RX5 3 0 0 C) {res : Int32 × MU} (hE : mEndI C .int res.1 res.2) (q0 : Nat) (hq0 : okX5 q0) (k4 : Int32 → Int32 → MU → mR) (hk4 : ∀ (x1 : Int32) (x2 : Int32) (u : MU), k4 x1 x2 u = some res → wat C u 4 [some (.ref (cS C q0)), some (.int x1), some (.int x2)] []) (x1 : Int32) (x2 : Int32) (u : MU) (h : b_X5_calleeBits_33 k4 q0 x1 x2 u = some res) : wat C u 33 [some (.ref (cS C q0)), some (.int x1), some (.int x2)] [] := by
  unfold b_X5_calleeBits_33 at h
  refine y_iinc hC (x2 + 1) [some (.ref (cS C q0)), some (.int x1), some (.int (x2 + 1))] dX5_calleeBits_33 rfl rfl rfl (Nat.le_of_ble_eq_true rfl) rfl ?_
  refine z_goto hC 4 dX5_calleeBits_36 (by decide) ?_
  exact hk4 x1 (x2 + 1) u h
set_option maxHeartbeats 4000000 in
set_option maxRecDepth 100000 in
theorem s_X5_calleeBits_4 {C : mCtx} (hC : mOK cX5_calleeBits RX5 3 0 0 C) {res : Int32 × MU} (hE : mEndI C .int res.1 res.2) (q0 : Nat) (hq0 : okX5 q0) (k4 : Int32 → Int32 → MU → mR) (hk4 : ∀ (x1 : Int32) (x2 : Int32) (u : MU), k4 x1 x2 u = some res → wat C u 4 [some (.ref (cS C q0)), some (.int x1), some (.int x2)] []) (x1 : Int32) (x2 : Int32) (u : MU) (h : b_X5_calleeBits_4 k4 q0 x1 x2 u = some res) : wat C u 4 [some (.ref (cS C q0)), some (.int x1), some (.int x2)] [] := by
  unfold b_X5_calleeBits_4 at h
  refine z_iload_n hC dX5_calleeBits_4 rfl rfl ?_
  refine z_aload_n hC dX5_calleeBits_5 rfl rfl ?_
  refine z_getI hC kF_X5_34 hq0.1 rfl dX5_calleeBits_6 ?_
  refine z_icmp_ge hC 39 dX5_calleeBits_9 (by decide) (fun b1 => ?_) (fun b1 => ?_)
  · rw [if_pos b1] at h
    refine z_iload_n hC dX5_calleeBits_39 rfl rfl ?_
    obtain rfl := Option.some.inj h
    exact z_iret hC hE dX5_calleeBits_40
  · rw [if_neg b1] at h
    refine z_aload_n hC dX5_calleeBits_12 rfl rfl ?_
    refine z_getR hC (q0 + 2) kF_X5_22 hq0.1 rfl dX5_calleeBits_13 ?_
    refine z_iload_n hC dX5_calleeBits_16 rfl rfl ?_
    obtain ⟨g2, h⟩ := gd_some h
    refine z_iald hC hq0.2.2.1 g2 dX5_calleeBits_17 ?_
    refine z_iconst (v := 3) hC dX5_calleeBits_18 (by decide) ?_
    refine z_icmp_ne hC 33 dX5_calleeBits_19 (by decide) (fun b3 => ?_) (fun b3 => ?_)
    · rw [if_neg b3] at h
      exact s_X5_calleeBits_33 hC hE q0 hq0 k4 hk4 x1 x2 u h
    · rw [if_pos b3] at h
      refine z_iload_n hC dX5_calleeBits_22 rfl rfl ?_
      refine z_iconst (v := 1) hC dX5_calleeBits_23 (by decide) ?_
      refine z_aload_n hC dX5_calleeBits_24 rfl rfl ?_
      refine z_getR hC (q0 + 4) kF_X5_28 hq0.1 rfl dX5_calleeBits_25 ?_
      refine z_iload_n hC dX5_calleeBits_28 rfl rfl ?_
      obtain ⟨g4, h⟩ := gd_some h
      refine z_iald hC hq0.2.2.2.2.1 g4 dX5_calleeBits_29 ?_
      refine z_ishl hC dX5_calleeBits_30 ?_
      refine z_ior hC dX5_calleeBits_31 ?_
      refine y_istore_n hC [some (.ref (cS C q0)), some (.int (x1 ||| (1 <<< ((u (q0 + 4) x2.toNatClampNeg) &&& 31)))), some (.int x2)] dX5_calleeBits_32 rfl rfl (Nat.le_of_ble_eq_true rfl) (Nat.le_of_ble_eq_true rfl) rfl ?_
      exact s_X5_calleeBits_33 hC hE q0 hq0 k4 hk4 (x1 ||| (1 <<< ((u (q0 + 4) x2.toNatClampNeg) &&& 31))) x2 u h
set_option maxHeartbeats 4000000 in
set_option maxRecDepth 100000 in
theorem t_X5_calleeBits_4 {C : mCtx} (hC : mOK cX5_calleeBits RX5 3 0 0 C) {res : Int32 × MU} (hE : mEndI C .int res.1 res.2) (q0 : Nat) (hq0 : okX5 q0) : ∀ (n : Nat) (x1 : Int32) (x2 : Int32) (u : MU), l_X5_calleeBits_4 q0 n x1 x2 u = some res → wat C u 4 [some (.ref (cS C q0)), some (.int x1), some (.int x2)] [] := by
  intro n
  induction n with
  | zero => intro x1 x2 u h; exact absurd h (by simp [l_X5_calleeBits_4])
  | succ n ih =>
    intro x1 x2 u h
    exact s_X5_calleeBits_4 hC hE q0 hq0 (fun x1 x2 u => l_X5_calleeBits_4 q0 n x1 x2 u) ih x1 x2 u h
set_option maxHeartbeats 4000000 in
set_option maxRecDepth 100000 in
theorem s_X5_calleeBits_0 {C : mCtx} (hC : mOK cX5_calleeBits RX5 3 0 0 C) {res : Int32 × MU} (hE : mEndI C .int res.1 res.2) (q0 : Nat) (hq0 : okX5 q0) (u : MU) (h : f_X5_calleeBits q0 u = some res) : wat C u 0 [some (.ref (cS C q0)), none, none] [] := by
  unfold f_X5_calleeBits at h
  refine z_iconst (v := 0) hC dX5_calleeBits_0 (by decide) ?_
  refine y_istore_n hC [some (.ref (cS C q0)), some (.int 0), none] dX5_calleeBits_1 rfl rfl (Nat.le_of_ble_eq_true rfl) (Nat.le_of_ble_eq_true rfl) rfl ?_
  refine z_iconst (v := 0) hC dX5_calleeBits_2 (by decide) ?_
  refine y_istore_n hC [some (.ref (cS C q0)), some (.int 0), some (.int 0)] dX5_calleeBits_3 rfl rfl (Nat.le_of_ble_eq_true rfl) (Nat.le_of_ble_eq_true rfl) rfl ?_
  exact t_X5_calleeBits_4 hC hE q0 hq0 FU 0 0 u h
theorem m_X5_calleeBits {l : Launch} {dC : Nat → ClassId} {dI : Nat → Nat → Nat} {dA : Nat → ClassId} {as : Nat → Nat} (hD : mDis as) (q0 : Nat) (hq0 : okX5 q0) (u : MU) {r : Int32} {v : MU} (h : f_X5_calleeBits q0 u = some (r, v)) : mMI l dC dI dA as yX5_calleeBits cX5_calleeBits 3 .int 0 0 [.ref (as q0)] u r v := mMI.of RX5 [some (.ref (as q0)), none, none] hD (by decide +kernel) rfl (Nat.le_of_ble_eq_true rfl) rfl (fun C e1 e2 e3 e4 e5 hC hE => by subst e5; exact s_X5_calleeBits_0 hC (res := (r, v)) hE q0 hq0 u h)
set_option maxHeartbeats 4000000 in
set_option maxRecDepth 100000 in
theorem s_X0_knowsBits_28 {C : mCtx} (hC : mOK cX0_knowsBits RX0 3 0 0 C) {res : Int32 × MU} (hE : mEndI C .boolean res.1 res.2) (x1 : Int32) (k2 : Int32 → MU → mR) (hk2 : ∀ (x2 : Int32) (u : MU), k2 x2 u = some res → wat C u 2 [some (.ref (cS C 2)), some (.int x1), some (.int x2)] []) (x2 : Int32) (u : MU) (h : b_X0_knowsBits_28 k2 x1 x2 u = some res) : wat C u 28 [some (.ref (cS C 2)), some (.int x1), some (.int x2)] [] := by
  unfold b_X0_knowsBits_28 at h
  refine y_iinc hC (x2 + 1) [some (.ref (cS C 2)), some (.int x1), some (.int (x2 + 1))] dX0_knowsBits_28 rfl rfl rfl (Nat.le_of_ble_eq_true rfl) rfl ?_
  refine z_goto hC 2 dX0_knowsBits_31 (by decide) ?_
  exact hk2 (x2 + 1) u h
set_option maxHeartbeats 4000000 in
set_option maxRecDepth 100000 in
theorem s_X0_knowsBits_2 {C : mCtx} (hC : mOK cX0_knowsBits RX0 3 0 0 C) {res : Int32 × MU} (hE : mEndI C .boolean res.1 res.2) (x1 : Int32) (k2 : Int32 → MU → mR) (hk2 : ∀ (x2 : Int32) (u : MU), k2 x2 u = some res → wat C u 2 [some (.ref (cS C 2)), some (.int x1), some (.int x2)] []) (x2 : Int32) (u : MU) (h : b_X0_knowsBits_2 k2 x1 x2 u = some res) : wat C u 2 [some (.ref (cS C 2)), some (.int x1), some (.int x2)] [] := by
  unfold b_X0_knowsBits_2 at h
  refine z_iload_n hC dX0_knowsBits_2 rfl rfl ?_
  refine z_bipush (v := 6) hC dX0_knowsBits_3 (by decide) ?_
  refine z_icmp_ge hC 34 dX0_knowsBits_5 (by decide) (fun b1 => ?_) (fun b1 => ?_)
  · rw [if_pos b1] at h
    refine z_iconst (v := 1) hC dX0_knowsBits_34 (by decide) ?_
    obtain rfl := Option.some.inj h
    exact z_zret hC hE rfl dX0_knowsBits_35
  · rw [if_neg b1] at h
    refine z_iload_n hC dX0_knowsBits_8 rfl rfl ?_
    refine z_iload_n hC dX0_knowsBits_9 rfl rfl ?_
    refine z_ishr hC dX0_knowsBits_10 ?_
    refine z_iconst (v := 1) hC dX0_knowsBits_11 (by decide) ?_
    refine z_iand hC dX0_knowsBits_12 ?_
    refine z_iconst (v := 1) hC dX0_knowsBits_13 (by decide) ?_
    refine z_icmp_ne hC 28 dX0_knowsBits_14 (by decide) (fun b2 => ?_) (fun b2 => ?_)
    · rw [if_neg b2] at h
      exact s_X0_knowsBits_28 hC hE x1 k2 hk2 x2 u h
    · rw [if_pos b2] at h
      refine z_aload_n hC dX0_knowsBits_17 rfl rfl ?_
      refine z_getR hC 7 kF_X0_24 sh_2 rfl dX0_knowsBits_18 ?_
      refine z_iload_n hC dX0_knowsBits_21 rfl rfl ?_
      obtain ⟨g3, h⟩ := gd_some h
      refine z_zald hC sh_7 g3 dX0_knowsBits_22 ?_
      refine z_if_ne hC 28 dX0_knowsBits_23 (by decide) (fun b4 => ?_) (fun b4 => ?_)
      · rw [if_neg b4] at h
        exact s_X0_knowsBits_28 hC hE x1 k2 hk2 x2 u h
      · rw [if_pos b4] at h
        refine z_iconst (v := 0) hC dX0_knowsBits_26 (by decide) ?_
        obtain rfl := Option.some.inj h
        exact z_zret hC hE rfl dX0_knowsBits_27
set_option maxHeartbeats 4000000 in
set_option maxRecDepth 100000 in
theorem t_X0_knowsBits_2 {C : mCtx} (hC : mOK cX0_knowsBits RX0 3 0 0 C) {res : Int32 × MU} (hE : mEndI C .boolean res.1 res.2) (x1 : Int32) : ∀ (n : Nat) (x2 : Int32) (u : MU), l_X0_knowsBits_2 x1 n x2 u = some res → wat C u 2 [some (.ref (cS C 2)), some (.int x1), some (.int x2)] [] := by
  intro n
  induction n with
  | zero => intro x2 u h; exact absurd h (by simp [l_X0_knowsBits_2])
  | succ n ih =>
    intro x2 u h
    exact s_X0_knowsBits_2 hC hE x1 (fun x2 u => l_X0_knowsBits_2 x1 n x2 u) ih x2 u h
set_option maxHeartbeats 4000000 in
set_option maxRecDepth 100000 in
theorem s_X0_knowsBits_0 {C : mCtx} (hC : mOK cX0_knowsBits RX0 3 0 0 C) {res : Int32 × MU} (hE : mEndI C .boolean res.1 res.2) (x1 : Int32) (u : MU) (h : f_X0_knowsBits x1 u = some res) : wat C u 0 [some (.ref (cS C 2)), some (.int x1), none] [] := by
  unfold f_X0_knowsBits at h
  refine z_iconst (v := 0) hC dX0_knowsBits_0 (by decide) ?_
  refine y_istore_n hC [some (.ref (cS C 2)), some (.int x1), some (.int 0)] dX0_knowsBits_1 rfl rfl (Nat.le_of_ble_eq_true rfl) (Nat.le_of_ble_eq_true rfl) rfl ?_
  exact t_X0_knowsBits_2 hC hE x1 FU 0 u h
theorem m_X0_knowsBits {l : Launch} {dC : Nat → ClassId} {dI : Nat → Nat → Nat} {dA : Nat → ClassId} {as : Nat → Nat} (hD : mDis as) (x1 : Int32) (u : MU) {r : Int32} {v : MU} (h : f_X0_knowsBits x1 u = some (r, v)) : mMI l dC dI dA as yX0_knowsBits cX0_knowsBits 3 .boolean 0 0 [.ref (as 2), .int x1] u r v := mMI.of RX0 [some (.ref (as 2)), some (.int x1), none] hD (by decide +kernel) rfl (Nat.le_of_ble_eq_true rfl) rfl (fun C e1 e2 e3 e4 e5 hC hE => by subst e5; exact s_X0_knowsBits_0 hC (res := (r, v)) hE x1 u h)
set_option maxHeartbeats 4000000 in
set_option maxRecDepth 100000 in
theorem s_X0_findKnown_29 {C : mCtx} (hC : mOK cX0_findKnown RX0 4 1 22 C) {res : Int32 × MU} (hE : mEndV C res.2) (k2 : Int32 → MU → mR) (hk2 : ∀ (x2 : Int32) (u : MU), k2 x2 u = some res → wat C u 2 [some (.ref (cS C 2)), some (.ref (cS C 1)), some (.int x2), none] []) (x2 : Int32) (s2 : Int32) (s1 : Int32) (u : MU) (h : b_X0_findKnown_29 k2 x2 s2 s1 u = some res) : wat C u 29 [some (.ref (cS C 2)), some (.ref (cS C 1)), some (.int x2), none] [(.int s2), (.int s1), (.ref (cS C 7))] := by
  unfold b_X0_findKnown_29 at h
  obtain ⟨g1, h⟩ := gd_some h
  obtain ⟨g2, h⟩ := gd_some h
  obtain ⟨u3, e3, h⟩ := mS_some h
  refine y_zast hC g1 sh_7 g2 dX0_findKnown_29 e3 ?_
  refine y_iinc hC (x2 + 1) [some (.ref (cS C 2)), some (.ref (cS C 1)), some (.int (x2 + 1)), none] dX0_findKnown_30 rfl rfl rfl (Nat.le_of_ble_eq_true rfl) rfl ?_
  refine z_goto hC 2 dX0_findKnown_33 (by decide) ?_
  exact hk2 (x2 + 1) u3 h
set_option maxHeartbeats 4000000 in
set_option maxRecDepth 100000 in
theorem s_X0_findKnown_84 {C : mCtx} (hC : mOK cX0_findKnown RX0 4 1 22 C) {res : Int32 × MU} (hE : mEndV C res.2) (k38 : Int32 → MU → mR) (hk38 : ∀ (x2 : Int32) (u : MU), k38 x2 u = some res → wat C u 38 [some (.ref (cS C 2)), some (.ref (cS C 1)), some (.int x2), none] []) (k46 : Int32 → Int32 → MU → mR) (hk46 : ∀ (x2 : Int32) (x3 : Int32) (u : MU), k46 x2 x3 u = some res → wat C u 46 [some (.ref (cS C 2)), some (.ref (cS C 1)), some (.int x2), some (.int x3)] []) (x2 : Int32) (x3 : Int32) (s2 : Int32) (s1 : Int32) (u : MU) (h : b_X0_findKnown_84 k38 k46 x2 x3 s2 s1 u = some res) : wat C u 84 [some (.ref (cS C 2)), some (.ref (cS C 1)), some (.int x2), some (.int x3)] [(.int s2), (.int s1), (.ref (cS C 7))] := by
  unfold b_X0_findKnown_84 at h
  obtain ⟨g1, h⟩ := gd_some h
  obtain ⟨g2, h⟩ := gd_some h
  obtain ⟨u3, e3, h⟩ := mS_some h
  refine y_zast hC g1 sh_7 g2 dX0_findKnown_84 e3 ?_
  refine y_iinc hC (x3 + 1) [some (.ref (cS C 2)), some (.ref (cS C 1)), some (.int x2), some (.int (x3 + 1))] dX0_findKnown_85 rfl rfl rfl (Nat.le_of_ble_eq_true rfl) rfl ?_
  refine z_goto hC 46 dX0_findKnown_88 (by decide) ?_
  exact hk46 x2 (x3 + 1) u3 h
set_option maxHeartbeats 4000000 in
set_option maxRecDepth 100000 in
theorem s_X0_findKnown_83 {C : mCtx} (hC : mOK cX0_findKnown RX0 4 1 22 C) {res : Int32 × MU} (hE : mEndV C res.2) (k38 : Int32 → MU → mR) (hk38 : ∀ (x2 : Int32) (u : MU), k38 x2 u = some res → wat C u 38 [some (.ref (cS C 2)), some (.ref (cS C 1)), some (.int x2), none] []) (k46 : Int32 → Int32 → MU → mR) (hk46 : ∀ (x2 : Int32) (x3 : Int32) (u : MU), k46 x2 x3 u = some res → wat C u 46 [some (.ref (cS C 2)), some (.ref (cS C 1)), some (.int x2), some (.int x3)] []) (x2 : Int32) (x3 : Int32) (s1 : Int32) (u : MU) (h : b_X0_findKnown_83 k38 k46 x2 x3 s1 u = some res) : wat C u 83 [some (.ref (cS C 2)), some (.ref (cS C 1)), some (.int x2), some (.int x3)] [(.int s1), (.ref (cS C 7))] := by
  unfold b_X0_findKnown_83 at h
  refine z_iconst (v := 0) hC dX0_findKnown_83 (by decide) ?_
  exact s_X0_findKnown_84 hC hE k38 hk38 k46 hk46 x2 x3 0 s1 u h
set_option maxHeartbeats 4000000 in
set_option maxRecDepth 100000 in
theorem s_X0_findKnown_46 {C : mCtx} (hC : mOK cX0_findKnown RX0 4 1 22 C) {res : Int32 × MU} (hE : mEndV C res.2) (k38 : Int32 → MU → mR) (hk38 : ∀ (x2 : Int32) (u : MU), k38 x2 u = some res → wat C u 38 [some (.ref (cS C 2)), some (.ref (cS C 1)), some (.int x2), none] []) (k46 : Int32 → Int32 → MU → mR) (hk46 : ∀ (x2 : Int32) (x3 : Int32) (u : MU), k46 x2 x3 u = some res → wat C u 46 [some (.ref (cS C 2)), some (.ref (cS C 1)), some (.int x2), some (.int x3)] []) (x2 : Int32) (x3 : Int32) (u : MU) (h : b_X0_findKnown_46 k38 k46 x2 x3 u = some res) : wat C u 46 [some (.ref (cS C 2)), some (.ref (cS C 1)), some (.int x2), some (.int x3)] [] := by
  unfold b_X0_findKnown_46 at h
  refine z_iload_n hC dX0_findKnown_46 rfl rfl ?_
  refine z_bipush (v := 6) hC dX0_findKnown_47 (by decide) ?_
  refine z_icmp_ge hC 91 dX0_findKnown_49 (by decide) (fun b1 => ?_) (fun b1 => ?_)
  · rw [if_pos b1] at h
    refine y_iinc hC (x2 + 1) [some (.ref (cS C 2)), some (.ref (cS C 1)), some (.int (x2 + 1)), some (.int x3)] dX0_findKnown_91 rfl rfl rfl (Nat.le_of_ble_eq_true rfl) rfl ?_
    refine z_goto hC 38 dX0_findKnown_94 (by decide) ?_
    refine z_mask [true, true, true, false] ?_
    exact hk38 (x2 + 1) u h
  · rw [if_neg b1] at h
    refine z_aload_n hC dX0_findKnown_52 rfl rfl ?_
    refine z_getR hC 7 kF_X0_24 sh_2 rfl dX0_findKnown_53 ?_
    refine z_iload_n hC dX0_findKnown_56 rfl rfl ?_
    refine z_aload_n hC dX0_findKnown_57 rfl rfl ?_
    refine z_getR hC 7 kF_X0_24 sh_2 rfl dX0_findKnown_58 ?_
    refine z_iload_n hC dX0_findKnown_61 rfl rfl ?_
    obtain ⟨g2, h⟩ := gd_some h
    refine z_zald hC sh_7 g2 dX0_findKnown_62 ?_
    refine z_if_eq hC 83 dX0_findKnown_63 (by decide) (fun b3 => ?_) (fun b3 => ?_)
    · rw [if_pos b3] at h
      exact s_X0_findKnown_83 hC hE k38 hk38 k46 hk46 x2 x3 x3 u h
    · rw [if_neg b3] at h
      refine z_aload_n hC dX0_findKnown_66 rfl rfl ?_
      refine z_aload_n hC dX0_findKnown_67 rfl rfl ?_
      refine z_iload_n hC dX0_findKnown_68 rfl rfl ?_
      obtain ⟨g4, h⟩ := gd_some h
      refine z_aald hC (rtn x3) sh_1 (fun _ => rfl) g4 (rtn_at g4) dX0_findKnown_69 ?_
      obtain ⟨r5, u5, c5, h⟩ := mB_some h
      refine z_callI hC kC_X5_calleeBits kM_X0_65 (rtn_ok g4).1 TX5 12 rfl (m_X5_calleeBits hC.dis (rtn x3) ((rtn_ok g4)) u c5) rfl (Nat.le_of_ble_eq_true rfl) (Nat.le_of_ble_eq_true rfl) (Nat.le_of_ble_eq_true rfl) rfl dX0_findKnown_70 ?_
      obtain ⟨r6, u6, c6, h⟩ := mB_some h
      refine z_callI hC kC_X0_knowsBits kM_X0_69 sh_2 TX0 6 rfl (m_X0_knowsBits hC.dis r5 u5 c6) rfl (Nat.le_of_ble_eq_true rfl) (Nat.le_of_ble_eq_true rfl) (Nat.le_of_ble_eq_true rfl) rfl dX0_findKnown_73 ?_
      refine z_if_eq hC 83 dX0_findKnown_76 (by decide) (fun b7 => ?_) (fun b7 => ?_)
      · rw [if_pos b7] at h
        exact s_X0_findKnown_83 hC hE k38 hk38 k46 hk46 x2 x3 x3 u6 h
      · rw [if_neg b7] at h
        refine z_iconst (v := 1) hC dX0_findKnown_79 (by decide) ?_
        refine z_goto hC 84 dX0_findKnown_80 (by decide) ?_
        exact s_X0_findKnown_84 hC hE k38 hk38 k46 hk46 x2 x3 1 x3 u6 h
set_option maxHeartbeats 4000000 in
set_option maxRecDepth 100000 in
theorem t_X0_findKnown_46 {C : mCtx} (hC : mOK cX0_findKnown RX0 4 1 22 C) {res : Int32 × MU} (hE : mEndV C res.2) (k38 : Int32 → MU → mR) (hk38 : ∀ (x2 : Int32) (u : MU), k38 x2 u = some res → wat C u 38 [some (.ref (cS C 2)), some (.ref (cS C 1)), some (.int x2), none] []) : ∀ (n : Nat) (x2 : Int32) (x3 : Int32) (u : MU), l_X0_findKnown_46 k38 n x2 x3 u = some res → wat C u 46 [some (.ref (cS C 2)), some (.ref (cS C 1)), some (.int x2), some (.int x3)] [] := by
  intro n
  induction n with
  | zero => intro x2 x3 u h; exact absurd h (by simp [l_X0_findKnown_46])
  | succ n ih =>
    intro x2 x3 u h
    exact s_X0_findKnown_46 hC hE k38 hk38 (fun x2 x3 u => l_X0_findKnown_46 k38 n x2 x3 u) ih x2 x3 u h
set_option maxHeartbeats 4000000 in
set_option maxRecDepth 100000 in
theorem s_X0_findKnown_38 {C : mCtx} (hC : mOK cX0_findKnown RX0 4 1 22 C) {res : Int32 × MU} (hE : mEndV C res.2) (k38 : Int32 → MU → mR) (hk38 : ∀ (x2 : Int32) (u : MU), k38 x2 u = some res → wat C u 38 [some (.ref (cS C 2)), some (.ref (cS C 1)), some (.int x2), none] []) (x2 : Int32) (u : MU) (h : b_X0_findKnown_38 k38 x2 u = some res) : wat C u 38 [some (.ref (cS C 2)), some (.ref (cS C 1)), some (.int x2), none] [] := by
  unfold b_X0_findKnown_38 at h
  refine z_iload_n hC dX0_findKnown_38 rfl rfl ?_
  refine z_bipush (v := 6) hC dX0_findKnown_39 (by decide) ?_
  refine z_icmp_ge hC 97 dX0_findKnown_41 (by decide) (fun b1 => ?_) (fun b1 => ?_)
  · rw [if_pos b1] at h
    obtain rfl := Option.some.inj h
    exact z_vret hC hE dX0_findKnown_97
  · rw [if_neg b1] at h
    refine z_iconst (v := 0) hC dX0_findKnown_44 (by decide) ?_
    refine y_istore_n hC [some (.ref (cS C 2)), some (.ref (cS C 1)), some (.int x2), some (.int 0)] dX0_findKnown_45 rfl rfl (Nat.le_of_ble_eq_true rfl) (Nat.le_of_ble_eq_true rfl) rfl ?_
    exact t_X0_findKnown_46 hC hE k38 hk38 FU x2 0 u h
set_option maxHeartbeats 4000000 in
set_option maxRecDepth 100000 in
theorem t_X0_findKnown_38 {C : mCtx} (hC : mOK cX0_findKnown RX0 4 1 22 C) {res : Int32 × MU} (hE : mEndV C res.2) : ∀ (n : Nat) (x2 : Int32) (u : MU), l_X0_findKnown_38 n x2 u = some res → wat C u 38 [some (.ref (cS C 2)), some (.ref (cS C 1)), some (.int x2), none] [] := by
  intro n
  induction n with
  | zero => intro x2 u h; exact absurd h (by simp [l_X0_findKnown_38])
  | succ n ih =>
    intro x2 u h
    exact s_X0_findKnown_38 hC hE (fun x2 u => l_X0_findKnown_38 n x2 u) ih x2 u h
set_option maxHeartbeats 4000000 in
set_option maxRecDepth 100000 in
theorem s_X0_findKnown_2 {C : mCtx} (hC : mOK cX0_findKnown RX0 4 1 22 C) {res : Int32 × MU} (hE : mEndV C res.2) (k2 : Int32 → MU → mR) (hk2 : ∀ (x2 : Int32) (u : MU), k2 x2 u = some res → wat C u 2 [some (.ref (cS C 2)), some (.ref (cS C 1)), some (.int x2), none] []) (x2 : Int32) (u : MU) (h : b_X0_findKnown_2 k2 x2 u = some res) : wat C u 2 [some (.ref (cS C 2)), some (.ref (cS C 1)), some (.int x2), none] [] := by
  unfold b_X0_findKnown_2 at h
  refine z_iload_n hC dX0_findKnown_2 rfl rfl ?_
  refine z_bipush (v := 6) hC dX0_findKnown_3 (by decide) ?_
  refine z_icmp_ge hC 36 dX0_findKnown_5 (by decide) (fun b1 => ?_) (fun b1 => ?_)
  · rw [if_pos b1] at h
    refine z_iconst (v := 0) hC dX0_findKnown_36 (by decide) ?_
    refine y_istore_n hC [some (.ref (cS C 2)), some (.ref (cS C 1)), some (.int 0), none] dX0_findKnown_37 rfl rfl (Nat.le_of_ble_eq_true rfl) (Nat.le_of_ble_eq_true rfl) rfl ?_
    exact t_X0_findKnown_38 hC hE FU 0 u h
  · rw [if_neg b1] at h
    refine z_aload_n hC dX0_findKnown_8 rfl rfl ?_
    refine z_getR hC 7 kF_X0_24 sh_2 rfl dX0_findKnown_9 ?_
    refine z_iload_n hC dX0_findKnown_12 rfl rfl ?_
    refine z_aload_n hC dX0_findKnown_13 rfl rfl ?_
    refine z_iload_n hC dX0_findKnown_14 rfl rfl ?_
    obtain ⟨g2, h⟩ := gd_some h
    refine z_aald hC (rtn x2) sh_1 (fun _ => rfl) g2 (rtn_at g2) dX0_findKnown_15 ?_
    refine z_getI hC kF_X0_60 (rtn_ok g2).1 rfl dX0_findKnown_16 ?_
    refine z_bipush (v := -6) hC dX0_findKnown_19 (by decide) ?_
    refine z_icmp_ne hC 28 dX0_findKnown_21 (by decide) (fun b3 => ?_) (fun b3 => ?_)
    · rw [if_neg b3] at h
      refine z_iconst (v := 0) hC dX0_findKnown_28 (by decide) ?_
      exact s_X0_findKnown_29 hC hE k2 hk2 x2 0 x2 u h
    · rw [if_pos b3] at h
      refine z_iconst (v := 1) hC dX0_findKnown_24 (by decide) ?_
      refine z_goto hC 29 dX0_findKnown_25 (by decide) ?_
      exact s_X0_findKnown_29 hC hE k2 hk2 x2 1 x2 u h
set_option maxHeartbeats 4000000 in
set_option maxRecDepth 100000 in
theorem t_X0_findKnown_2 {C : mCtx} (hC : mOK cX0_findKnown RX0 4 1 22 C) {res : Int32 × MU} (hE : mEndV C res.2) : ∀ (n : Nat) (x2 : Int32) (u : MU), l_X0_findKnown_2 n x2 u = some res → wat C u 2 [some (.ref (cS C 2)), some (.ref (cS C 1)), some (.int x2), none] [] := by
  intro n
  induction n with
  | zero => intro x2 u h; exact absurd h (by simp [l_X0_findKnown_2])
  | succ n ih =>
    intro x2 u h
    exact s_X0_findKnown_2 hC hE (fun x2 u => l_X0_findKnown_2 n x2 u) ih x2 u h
set_option maxHeartbeats 4000000 in
set_option maxRecDepth 100000 in
theorem s_X0_findKnown_0 {C : mCtx} (hC : mOK cX0_findKnown RX0 4 1 22 C) {res : Int32 × MU} (hE : mEndV C res.2) (u : MU) (h : f_X0_findKnown u = some res) : wat C u 0 [some (.ref (cS C 2)), some (.ref (cS C 1)), none, none] [] := by
  unfold f_X0_findKnown at h
  refine z_iconst (v := 0) hC dX0_findKnown_0 (by decide) ?_
  refine y_istore_n hC [some (.ref (cS C 2)), some (.ref (cS C 1)), some (.int 0), none] dX0_findKnown_1 rfl rfl (Nat.le_of_ble_eq_true rfl) (Nat.le_of_ble_eq_true rfl) rfl ?_
  exact t_X0_findKnown_2 hC hE FU 0 u h
theorem m_X0_findKnown {l : Launch} {dC : Nat → ClassId} {dI : Nat → Nat → Nat} {dA : Nat → ClassId} {as : Nat → Nat} (hD : mDis as) (u : MU) {r : Int32} {v : MU} (h : f_X0_findKnown u = some (r, v)) : mMV l dC dI dA as yX0_findKnown cX0_findKnown 4 1 22 [.ref (as 2), .ref (as 1)] u v := mMV.of RX0 [some (.ref (as 2)), some (.ref (as 1)), none, none] hD (by decide +kernel) rfl (Nat.le_of_ble_eq_true rfl) rfl (fun C e1 e2 e3 e4 e5 hC hE => by subst e5; exact s_X0_findKnown_0 hC (res := (r, v)) hE u h)
set_option maxHeartbeats 4000000 in
set_option maxRecDepth 100000 in
theorem s_X6_placeOf_0 {C : mCtx} (hC : mOK cX6_placeOf RX6 2 0 0 C) {res : Int32 × MU} (hE : mEndI C .int res.1 res.2) (x0 : Int32) (x1 : Int32) (u : MU) (h : f_X6_placeOf x0 x1 u = some res) : wat C u 0 [some (.int x0), some (.int x1)] [] := by
  unfold f_X6_placeOf at h
  refine z_iload_n hC dX6_placeOf_0 rfl rfl ?_
  refine z_bipush (v := 18) hC dX6_placeOf_1 (by decide) ?_
  refine z_icmp_ge hC 10 dX6_placeOf_3 (by decide) (fun b1 => ?_) (fun b1 => ?_)
  · rw [if_pos b1] at h
    refine z_bipush (v := 6) hC dX6_placeOf_10 (by decide) ?_
    refine z_iload_n hC dX6_placeOf_12 rfl rfl ?_
    refine z_bipush (v := 18) hC dX6_placeOf_13 (by decide) ?_
    refine z_isub hC dX6_placeOf_15 ?_
    refine z_iload_n hC dX6_placeOf_16 rfl rfl ?_
    refine z_iadd hC dX6_placeOf_17 ?_
    refine z_bipush (v := 12) hC dX6_placeOf_18 (by decide) ?_
    refine y_irem hC dX6_placeOf_20 (by decide) ?_
    refine z_iadd hC dX6_placeOf_21 ?_
    obtain rfl := Option.some.inj h
    exact z_iret hC hE dX6_placeOf_22
  · rw [if_neg b1] at h
    refine z_iload_n hC dX6_placeOf_6 rfl rfl ?_
    refine z_goto hC 22 dX6_placeOf_7 (by decide) ?_
    obtain rfl := Option.some.inj h
    exact z_iret hC hE dX6_placeOf_22
theorem m_X6_placeOf {l : Launch} {dC : Nat → ClassId} {dI : Nat → Nat → Nat} {dA : Nat → ClassId} {as : Nat → Nat} (hD : mDis as) (x0 : Int32) (x1 : Int32) (u : MU) {r : Int32} {v : MU} (h : f_X6_placeOf x0 x1 u = some (r, v)) : mMI l dC dI dA as yX6_placeOf cX6_placeOf 2 .int 0 0 [.int x0, .int x1] u r v := mMI.of RX6 [some (.int x0), some (.int x1)] hD (by decide +kernel) rfl (Nat.le_of_ble_eq_true rfl) rfl (fun C e1 e2 e3 e4 e5 hC hE => by subst e5; exact s_X6_placeOf_0 hC (res := (r, v)) hE x0 x1 u h)
set_option maxHeartbeats 4000000 in
set_option maxRecDepth 100000 in
theorem s_X0_startWithOwn_165 {C : mCtx} (hC : mOK cX0_startWithOwn RX0 7 1 21 C) {res : Int32 × MU} (hE : mEndV C res.2) (q1 : Nat) (hq1 : okX5 q1) (x3 : Int32) (k53 : Int32 → Int32 → MU → mR) (hk53 : ∀ (x4 : Int32) (x5 : Int32) (u : MU), k53 x4 x5 u = some res → wat C u 53 [some (.ref (cS C 2)), some (.ref (cS C q1)), none, some (.int x3), some (.int x4), some (.int x5), none] []) (x4 : Int32) (x5 : Int32) (u : MU) (h : b_X0_startWithOwn_165 k53 q1 x3 x4 x5 u = some res) : wat C u 165 [some (.ref (cS C 2)), some (.ref (cS C q1)), none, some (.int x3), some (.int x4), some (.int x5), none] [] := by
  unfold b_X0_startWithOwn_165 at h
  refine y_iinc hC (x5 + 1) [some (.ref (cS C 2)), some (.ref (cS C q1)), none, some (.int x3), some (.int x4), some (.int (x5 + 1)), none] dX0_startWithOwn_165 rfl rfl rfl (Nat.le_of_ble_eq_true rfl) rfl ?_
  refine z_goto hC 53 dX0_startWithOwn_168 (by decide) ?_
  exact hk53 x4 (x5 + 1) u h
set_option maxHeartbeats 4000000 in
set_option maxRecDepth 100000 in
theorem s_X0_startWithOwn_217 {C : mCtx} (hC : mOK cX0_startWithOwn RX0 7 1 21 C) {res : Int32 × MU} (hE : mEndV C res.2) (q1 : Nat) (hq1 : okX5 q1) (x3 : Int32) (k174 : Int32 → Int32 → MU → mR) (hk174 : ∀ (x4 : Int32) (x5 : Int32) (u : MU), k174 x4 x5 u = some res → wat C u 174 [some (.ref (cS C 2)), some (.ref (cS C q1)), none, some (.int x3), some (.int x4), some (.int x5), none] []) (x4 : Int32) (x5 : Int32) (u : MU) (h : b_X0_startWithOwn_217 k174 q1 x3 x4 x5 u = some res) : wat C u 217 [some (.ref (cS C 2)), some (.ref (cS C q1)), none, some (.int x3), some (.int x4), some (.int x5), none] [] := by
  unfold b_X0_startWithOwn_217 at h
  refine y_iinc hC (x5 + 1) [some (.ref (cS C 2)), some (.ref (cS C q1)), none, some (.int x3), some (.int x4), some (.int (x5 + 1)), none] dX0_startWithOwn_217 rfl rfl rfl (Nat.le_of_ble_eq_true rfl) rfl ?_
  refine z_goto hC 174 dX0_startWithOwn_220 (by decide) ?_
  exact hk174 x4 (x5 + 1) u h
set_option maxHeartbeats 4000000 in
set_option maxRecDepth 100000 in
theorem s_X0_startWithOwn_174 {C : mCtx} (hC : mOK cX0_startWithOwn RX0 7 1 21 C) {res : Int32 × MU} (hE : mEndV C res.2) (q1 : Nat) (hq1 : okX5 q1) (x3 : Int32) (k174 : Int32 → Int32 → MU → mR) (hk174 : ∀ (x4 : Int32) (x5 : Int32) (u : MU), k174 x4 x5 u = some res → wat C u 174 [some (.ref (cS C 2)), some (.ref (cS C q1)), none, some (.int x3), some (.int x4), some (.int x5), none] []) (x4 : Int32) (x5 : Int32) (u : MU) (h : b_X0_startWithOwn_174 k174 q1 x3 x4 x5 u = some res) : wat C u 174 [some (.ref (cS C 2)), some (.ref (cS C q1)), none, some (.int x3), some (.int x4), some (.int x5), none] [] := by
  unfold b_X0_startWithOwn_174 at h
  refine z_iload hC dX0_startWithOwn_174 rfl ?_
  refine z_aload_n hC dX0_startWithOwn_176 rfl rfl ?_
  refine z_getI hC kF_X0_86 hq1.1 rfl dX0_startWithOwn_177 ?_
  refine z_icmp_ge hC 223 dX0_startWithOwn_180 (by decide) (fun b1 => ?_) (fun b1 => ?_)
  · rw [if_pos b1] at h
    obtain rfl := Option.some.inj h
    exact z_vret hC hE dX0_startWithOwn_223
  · rw [if_neg b1] at h
    refine z_aload_n hC dX0_startWithOwn_183 rfl rfl ?_
    refine z_getR hC (q1 + 6) kF_X0_89 hq1.1 rfl dX0_startWithOwn_184 ?_
    refine z_iload hC dX0_startWithOwn_187 rfl ?_
    obtain ⟨g2, h⟩ := gd_some h
    refine z_iald hC hq1.2.2.2.2.2.2.1 g2 dX0_startWithOwn_189 ?_
    refine z_iconst (v := 2) hC dX0_startWithOwn_190 (by decide) ?_
    refine z_icmp_ne hC 217 dX0_startWithOwn_191 (by decide) (fun b3 => ?_) (fun b3 => ?_)
    · rw [if_neg b3] at h
      exact s_X0_startWithOwn_217 hC hE q1 hq1 x3 k174 hk174 x4 x5 u h
    · rw [if_pos b3] at h
      refine z_aload_n hC dX0_startWithOwn_194 rfl rfl ?_
      refine z_getR hC 3 kF_X0_11 sh_2 rfl dX0_startWithOwn_195 ?_
      refine z_iload hC dX0_startWithOwn_198 rfl ?_
      refine z_dup2 hC dX0_startWithOwn_200 rfl rfl ?_
      obtain ⟨g4, h⟩ := gd_some h
      refine z_iald hC sh_3 g4 dX0_startWithOwn_201 ?_
      refine z_iconst (v := 1) hC dX0_startWithOwn_202 (by decide) ?_
      refine z_aload_n hC dX0_startWithOwn_203 rfl rfl ?_
      refine z_getR hC (q1 + 7) kF_X0_92 hq1.1 rfl dX0_startWithOwn_204 ?_
      refine z_iload hC dX0_startWithOwn_207 rfl ?_
      obtain ⟨g5, h⟩ := gd_some h
      refine z_iald hC hq1.2.2.2.2.2.2.2 g5 dX0_startWithOwn_209 ?_
      refine z_iload_n hC dX0_startWithOwn_210 rfl rfl ?_
      obtain ⟨r6, u6, c6, h⟩ := mB_some h
      refine z_callNI hC kC_X6_placeOf kM_X0_79 (m_X6_placeOf hC.dis (u (q1 + 7) x5.toNatClampNeg) x3 u c6) rfl (Nat.le_of_ble_eq_true rfl) (Nat.le_of_ble_eq_true rfl) (Nat.le_of_ble_eq_true rfl) rfl dX0_startWithOwn_211 ?_
      refine z_ishl hC dX0_startWithOwn_214 ?_
      refine z_ior hC dX0_startWithOwn_215 ?_
      obtain ⟨g7, h⟩ := gd_some h
      obtain ⟨u8, e8, h⟩ := mS_some h
      refine y_iast hC sh_3 g7 dX0_startWithOwn_216 e8 ?_
      exact s_X0_startWithOwn_217 hC hE q1 hq1 x3 k174 hk174 x4 x5 u8 h
set_option maxHeartbeats 4000000 in
set_option maxRecDepth 100000 in
theorem t_X0_startWithOwn_174 {C : mCtx} (hC : mOK cX0_startWithOwn RX0 7 1 21 C) {res : Int32 × MU} (hE : mEndV C res.2) (q1 : Nat) (hq1 : okX5 q1) (x3 : Int32) : ∀ (n : Nat) (x4 : Int32) (x5 : Int32) (u : MU), l_X0_startWithOwn_174 q1 x3 n x4 x5 u = some res → wat C u 174 [some (.ref (cS C 2)), some (.ref (cS C q1)), none, some (.int x3), some (.int x4), some (.int x5), none] [] := by
  intro n
  induction n with
  | zero => intro x4 x5 u h; exact absurd h (by simp [l_X0_startWithOwn_174])
  | succ n ih =>
    intro x4 x5 u h
    exact s_X0_startWithOwn_174 hC hE q1 hq1 x3 (fun x4 x5 u => l_X0_startWithOwn_174 q1 x3 n x4 x5 u) ih x4 x5 u h
set_option maxHeartbeats 4000000 in
set_option maxRecDepth 100000 in
theorem s_X0_startWithOwn_53 {C : mCtx} (hC : mOK cX0_startWithOwn RX0 7 1 21 C) {res : Int32 × MU} (hE : mEndV C res.2) (q1 : Nat) (hq1 : okX5 q1) (x3 : Int32) (k53 : Int32 → Int32 → MU → mR) (hk53 : ∀ (x4 : Int32) (x5 : Int32) (u : MU), k53 x4 x5 u = some res → wat C u 53 [some (.ref (cS C 2)), some (.ref (cS C q1)), none, some (.int x3), some (.int x4), some (.int x5), none] []) (x4 : Int32) (x5 : Int32) (u : MU) (h : b_X0_startWithOwn_53 k53 q1 x3 x4 x5 u = some res) : wat C u 53 [some (.ref (cS C 2)), some (.ref (cS C q1)), none, some (.int x3), some (.int x4), some (.int x5), none] [] := by
  unfold b_X0_startWithOwn_53 at h
  refine z_iload hC dX0_startWithOwn_53 rfl ?_
  refine z_aload_n hC dX0_startWithOwn_55 rfl rfl ?_
  refine z_getI hC kF_X0_73 hq1.1 rfl dX0_startWithOwn_56 ?_
  refine z_icmp_ge hC 171 dX0_startWithOwn_59 (by decide) (fun b1 => ?_) (fun b1 => ?_)
  · rw [if_pos b1] at h
    refine z_iconst (v := 0) hC dX0_startWithOwn_171 (by decide) ?_
    refine y_istore hC [some (.ref (cS C 2)), some (.ref (cS C q1)), none, some (.int x3), some (.int x4), some (.int 0), none] dX0_startWithOwn_172 rfl (Nat.le_of_ble_eq_true rfl) (Nat.le_of_ble_eq_true rfl) rfl ?_
    exact t_X0_startWithOwn_174 hC hE q1 hq1 x3 FU x4 0 u h
  · rw [if_neg b1] at h
    refine z_iconst (v := 1) hC dX0_startWithOwn_62 (by decide) ?_
    refine z_aload_n hC dX0_startWithOwn_63 rfl rfl ?_
    refine z_getR hC (q1 + 3) kF_X0_76 hq1.1 rfl dX0_startWithOwn_64 ?_
    refine z_iload hC dX0_startWithOwn_67 rfl ?_
    obtain ⟨g2, h⟩ := gd_some h
    refine z_iald hC hq1.2.2.2.1 g2 dX0_startWithOwn_69 ?_
    refine z_iload_n hC dX0_startWithOwn_70 rfl rfl ?_
    obtain ⟨r3, u3, c3, h⟩ := mB_some h
    refine z_callNI hC kC_X6_placeOf kM_X0_79 (m_X6_placeOf hC.dis (u (q1 + 3) x5.toNatClampNeg) x3 u c3) rfl (Nat.le_of_ble_eq_true rfl) (Nat.le_of_ble_eq_true rfl) (Nat.le_of_ble_eq_true rfl) rfl dX0_startWithOwn_71 ?_
    refine z_ishl hC dX0_startWithOwn_74 ?_
    refine y_istore hC [some (.ref (cS C 2)), some (.ref (cS C q1)), none, some (.int x3), some (.int x4), some (.int x5), some (.int (1 <<< (r3 &&& 31)))] dX0_startWithOwn_75 rfl (Nat.le_of_ble_eq_true rfl) (Nat.le_of_ble_eq_true rfl) rfl ?_
    refine z_aload_n hC dX0_startWithOwn_77 rfl rfl ?_
    refine z_getR hC (q1 + 2) kF_X0_83 hq1.1 rfl dX0_startWithOwn_78 ?_
    refine z_iload hC dX0_startWithOwn_81 rfl ?_
    obtain ⟨g4, h⟩ := gd_some h
    refine z_iald hC hq1.2.2.1 g4 dX0_startWithOwn_83 ?_
    by_cases b5 : (u3 (q1 + 2) x5.toNatClampNeg) = 0
    · rw [if_pos b5] at h
      refine z_tin hC 112 dX0_startWithOwn_84 0 b5 (by decide) (by decide) rfl (by decide) ?_
      refine z_aload_n hC dX0_startWithOwn_112 rfl rfl ?_
      refine z_getR hC 4 kF_X0_15 sh_2 rfl dX0_startWithOwn_113 ?_
      refine z_iload hC dX0_startWithOwn_116 rfl ?_
      refine z_dup2 hC dX0_startWithOwn_118 rfl rfl ?_
      obtain ⟨g6, h⟩ := gd_some h
      refine z_iald hC sh_4 g6 dX0_startWithOwn_119 ?_
      refine z_iload hC dX0_startWithOwn_120 rfl ?_
      refine z_ior hC dX0_startWithOwn_122 ?_
      obtain ⟨g7, h⟩ := gd_some h
      obtain ⟨u8, e8, h⟩ := mS_some h
      refine y_iast hC sh_4 g7 dX0_startWithOwn_123 e8 ?_
      refine z_goto hC 165 dX0_startWithOwn_124 (by decide) ?_
      refine z_mask [true, true, false, true, true, true, false] ?_
      exact s_X0_startWithOwn_165 hC hE q1 hq1 x3 k53 hk53 x4 x5 u8 h
    · rw [if_neg b5] at h
      by_cases b9 : (u3 (q1 + 2) x5.toNatClampNeg) = 1
      · rw [if_pos b9] at h
        refine z_tin hC 127 dX0_startWithOwn_84 1 b9 (by decide) (by decide) rfl (by decide) ?_
        refine z_aload_n hC dX0_startWithOwn_127 rfl rfl ?_
        refine z_getR hC 5 kF_X0_18 sh_2 rfl dX0_startWithOwn_128 ?_
        refine z_iload hC dX0_startWithOwn_131 rfl ?_
        refine z_dup2 hC dX0_startWithOwn_133 rfl rfl ?_
        obtain ⟨g10, h⟩ := gd_some h
        refine z_iald hC sh_5 g10 dX0_startWithOwn_134 ?_
        refine z_iload hC dX0_startWithOwn_135 rfl ?_
        refine z_ior hC dX0_startWithOwn_137 ?_
        obtain ⟨g11, h⟩ := gd_some h
        obtain ⟨u12, e12, h⟩ := mS_some h
        refine y_iast hC sh_5 g11 dX0_startWithOwn_138 e12 ?_
        refine z_goto hC 165 dX0_startWithOwn_139 (by decide) ?_
        refine z_mask [true, true, false, true, true, true, false] ?_
        exact s_X0_startWithOwn_165 hC hE q1 hq1 x3 k53 hk53 x4 x5 u12 h
      · rw [if_neg b9] at h
        by_cases b13 : (u3 (q1 + 2) x5.toNatClampNeg) = 2
        · rw [if_pos b13] at h
          refine z_tin hC 142 dX0_startWithOwn_84 2 b13 (by decide) (by decide) rfl (by decide) ?_
          refine z_aload_n hC dX0_startWithOwn_142 rfl rfl ?_
          refine z_getR hC 3 kF_X0_11 sh_2 rfl dX0_startWithOwn_143 ?_
          refine z_iload hC dX0_startWithOwn_146 rfl ?_
          refine z_dup2 hC dX0_startWithOwn_148 rfl rfl ?_
          obtain ⟨g14, h⟩ := gd_some h
          refine z_iald hC sh_3 g14 dX0_startWithOwn_149 ?_
          refine z_iload hC dX0_startWithOwn_150 rfl ?_
          refine z_ior hC dX0_startWithOwn_152 ?_
          obtain ⟨g15, h⟩ := gd_some h
          obtain ⟨u16, e16, h⟩ := mS_some h
          refine y_iast hC sh_3 g15 dX0_startWithOwn_153 e16 ?_
          refine z_aload_n hC dX0_startWithOwn_154 rfl rfl ?_
          refine z_getR hC 6 kF_X0_21 sh_2 rfl dX0_startWithOwn_155 ?_
          refine z_iload hC dX0_startWithOwn_158 rfl ?_
          refine z_iconst (v := 1) hC dX0_startWithOwn_160 (by decide) ?_
          obtain ⟨g17, h⟩ := gd_some h
          obtain ⟨u18, e18, h⟩ := mS_some h
          refine y_iast hC sh_6 g17 dX0_startWithOwn_161 e18 ?_
          refine z_goto hC 165 dX0_startWithOwn_162 (by decide) ?_
          refine z_mask [true, true, false, true, true, true, false] ?_
          exact s_X0_startWithOwn_165 hC hE q1 hq1 x3 k53 hk53 x4 x5 u18 h
        · rw [if_neg b13] at h
          refine z_tout hC 165 dX0_startWithOwn_84 (tab_out (a := 2) (by intro k hk; match k, hk with | 0, _ => exact b5 | 1, _ => exact b9 | 2, _ => exact b13 | k + 3, hk => omega) (by decide)) (by decide) ?_
          refine z_mask [true, true, false, true, true, true, false] ?_
          exact s_X0_startWithOwn_165 hC hE q1 hq1 x3 k53 hk53 x4 x5 u3 h
set_option maxHeartbeats 4000000 in
set_option maxRecDepth 100000 in
theorem t_X0_startWithOwn_53 {C : mCtx} (hC : mOK cX0_startWithOwn RX0 7 1 21 C) {res : Int32 × MU} (hE : mEndV C res.2) (q1 : Nat) (hq1 : okX5 q1) (x3 : Int32) : ∀ (n : Nat) (x4 : Int32) (x5 : Int32) (u : MU), l_X0_startWithOwn_53 q1 x3 n x4 x5 u = some res → wat C u 53 [some (.ref (cS C 2)), some (.ref (cS C q1)), none, some (.int x3), some (.int x4), some (.int x5), none] [] := by
  intro n
  induction n with
  | zero => intro x4 x5 u h; exact absurd h (by simp [l_X0_startWithOwn_53])
  | succ n ih =>
    intro x4 x5 u h
    exact s_X0_startWithOwn_53 hC hE q1 hq1 x3 (fun x4 x5 u => l_X0_startWithOwn_53 q1 x3 n x4 x5 u) ih x4 x5 u h
set_option maxHeartbeats 4000000 in
set_option maxRecDepth 100000 in
theorem s_X0_startWithOwn_0 {C : mCtx} (hC : mOK cX0_startWithOwn RX0 7 1 21 C) {res : Int32 × MU} (hE : mEndV C res.2) (q1 : Nat) (hq1 : okX5 q1) (x2 : Int32) (x3 : Int32) (u : MU) (h : f_X0_startWithOwn q1 x2 x3 u = some res) : wat C u 0 [some (.ref (cS C 2)), some (.ref (cS C q1)), some (.int x2), some (.int x3), none, none, none] [] := by
  unfold f_X0_startWithOwn at h
  refine z_iload_n hC dX0_startWithOwn_0 rfl rfl ?_
  refine z_bipush (v := 12) hC dX0_startWithOwn_1 (by decide) ?_
  refine z_imul hC dX0_startWithOwn_3 ?_
  refine z_iload_n hC dX0_startWithOwn_4 rfl rfl ?_
  refine z_iadd hC dX0_startWithOwn_5 ?_
  refine y_istore hC [some (.ref (cS C 2)), some (.ref (cS C q1)), some (.int x2), some (.int x3), some (.int ((x2 * 12) + x3)), none, none] dX0_startWithOwn_6 rfl (Nat.le_of_ble_eq_true rfl) (Nat.le_of_ble_eq_true rfl) rfl ?_
  refine z_aload_n hC dX0_startWithOwn_8 rfl rfl ?_
  refine z_getR hC 3 kF_X0_11 sh_2 rfl dX0_startWithOwn_9 ?_
  refine z_iload hC dX0_startWithOwn_12 rfl ?_
  refine z_iconst (v := 0) hC dX0_startWithOwn_14 (by decide) ?_
  obtain ⟨g1, h⟩ := gd_some h
  obtain ⟨u2, e2, h⟩ := mS_some h
  refine y_iast hC sh_3 g1 dX0_startWithOwn_15 e2 ?_
  refine z_aload_n hC dX0_startWithOwn_16 rfl rfl ?_
  refine z_getR hC 4 kF_X0_15 sh_2 rfl dX0_startWithOwn_17 ?_
  refine z_iload hC dX0_startWithOwn_20 rfl ?_
  refine z_iconst (v := 0) hC dX0_startWithOwn_22 (by decide) ?_
  obtain ⟨g3, h⟩ := gd_some h
  obtain ⟨u4, e4, h⟩ := mS_some h
  refine y_iast hC sh_4 g3 dX0_startWithOwn_23 e4 ?_
  refine z_aload_n hC dX0_startWithOwn_24 rfl rfl ?_
  refine z_getR hC 5 kF_X0_18 sh_2 rfl dX0_startWithOwn_25 ?_
  refine z_iload hC dX0_startWithOwn_28 rfl ?_
  refine z_iconst (v := 0) hC dX0_startWithOwn_30 (by decide) ?_
  obtain ⟨g5, h⟩ := gd_some h
  obtain ⟨u6, e6, h⟩ := mS_some h
  refine y_iast hC sh_5 g5 dX0_startWithOwn_31 e6 ?_
  refine z_aload_n hC dX0_startWithOwn_32 rfl rfl ?_
  refine z_getR hC 6 kF_X0_21 sh_2 rfl dX0_startWithOwn_33 ?_
  refine z_iload hC dX0_startWithOwn_36 rfl ?_
  refine z_iconst (v := 0) hC dX0_startWithOwn_38 (by decide) ?_
  obtain ⟨g7, h⟩ := gd_some h
  obtain ⟨u8, e8, h⟩ := mS_some h
  refine y_iast hC sh_6 g7 dX0_startWithOwn_39 e8 ?_
  refine z_aload_n hC dX0_startWithOwn_40 rfl rfl ?_
  refine z_getR hC 7 kF_X0_24 sh_2 rfl dX0_startWithOwn_41 ?_
  refine z_iload_n hC dX0_startWithOwn_44 rfl rfl ?_
  obtain ⟨g9, h⟩ := gd_some h
  refine z_zald hC sh_7 g9 dX0_startWithOwn_45 ?_
  refine z_if_ne hC 50 dX0_startWithOwn_46 (by decide) (fun b10 => ?_) (fun b10 => ?_)
  · rw [if_neg b10] at h
    refine z_iconst (v := 0) hC dX0_startWithOwn_50 (by decide) ?_
    refine y_istore hC [some (.ref (cS C 2)), some (.ref (cS C q1)), some (.int x2), some (.int x3), some (.int ((x2 * 12) + x3)), some (.int 0), none] dX0_startWithOwn_51 rfl (Nat.le_of_ble_eq_true rfl) (Nat.le_of_ble_eq_true rfl) rfl ?_
    refine z_mask [true, true, false, true, true, true, false] ?_
    exact t_X0_startWithOwn_53 hC hE q1 hq1 x3 FU ((x2 * 12) + x3) 0 u8 h
  · rw [if_pos b10] at h
    obtain rfl := Option.some.inj h
    exact z_vret hC hE dX0_startWithOwn_49
theorem m_X0_startWithOwn {l : Launch} {dC : Nat → ClassId} {dI : Nat → Nat → Nat} {dA : Nat → ClassId} {as : Nat → Nat} (hD : mDis as) (q1 : Nat) (hq1 : okX5 q1) (x2 : Int32) (x3 : Int32) (u : MU) {r : Int32} {v : MU} (h : f_X0_startWithOwn q1 x2 x3 u = some (r, v)) : mMV l dC dI dA as yX0_startWithOwn cX0_startWithOwn 7 1 21 [.ref (as 2), .ref (as q1), .int x2, .int x3] u v := mMV.of RX0 [some (.ref (as 2)), some (.ref (as q1)), some (.int x2), some (.int x3), none, none, none] hD (by decide +kernel) rfl (Nat.le_of_ble_eq_true rfl) rfl (fun C e1 e2 e3 e4 e5 hC hE => by subst e5; exact s_X0_startWithOwn_0 hC (res := (r, v)) hE q1 hq1 x2 x3 u h)
set_option maxHeartbeats 4000000 in
set_option maxRecDepth 100000 in
theorem s_X0_take_0 {C : mCtx} (hC : mOK cX0_take RX0 4 0 0 C) {res : Int32 × MU} (hE : mEndI C .boolean res.1 res.2) (x1 : Int32) (x2 : Int32) (u : MU) (h : f_X0_take x1 x2 u = some res) : wat C u 0 [some (.ref (cS C 2)), some (.int x1), some (.int x2), none] [] := by
  unfold f_X0_take at h
  refine z_aload_n hC dX0_take_0 rfl rfl ?_
  refine z_getR hC 3 kF_X0_11 sh_2 rfl dX0_take_1 ?_
  refine z_iload_n hC dX0_take_4 rfl rfl ?_
  obtain ⟨g1, h⟩ := gd_some h
  refine z_iald hC sh_3 g1 dX0_take_5 ?_
  refine z_aload_n hC dX0_take_6 rfl rfl ?_
  refine z_getR hC 3 kF_X0_11 sh_2 rfl dX0_take_7 ?_
  refine z_iload_n hC dX0_take_10 rfl rfl ?_
  obtain ⟨g2, h⟩ := gd_some h
  refine z_iald hC sh_3 g2 dX0_take_11 ?_
  refine z_iconst (v := -1) hC dX0_take_12 (by decide) ?_
  refine z_ixor hC dX0_take_13 ?_
  refine z_iand hC dX0_take_14 ?_
  refine z_aload_n hC dX0_take_15 rfl rfl ?_
  refine z_getR hC 4 kF_X0_15 sh_2 rfl dX0_take_16 ?_
  refine z_iload_n hC dX0_take_19 rfl rfl ?_
  obtain ⟨g3, h⟩ := gd_some h
  refine z_iald hC sh_4 g3 dX0_take_20 ?_
  refine z_aload_n hC dX0_take_21 rfl rfl ?_
  refine z_getR hC 4 kF_X0_15 sh_2 rfl dX0_take_22 ?_
  refine z_iload_n hC dX0_take_25 rfl rfl ?_
  obtain ⟨g4, h⟩ := gd_some h
  refine z_iald hC sh_4 g4 dX0_take_26 ?_
  refine z_iconst (v := -1) hC dX0_take_27 (by decide) ?_
  refine z_ixor hC dX0_take_28 ?_
  refine z_iand hC dX0_take_29 ?_
  refine z_ior hC dX0_take_30 ?_
  refine z_aload_n hC dX0_take_31 rfl rfl ?_
  refine z_getR hC 5 kF_X0_18 sh_2 rfl dX0_take_32 ?_
  refine z_iload_n hC dX0_take_35 rfl rfl ?_
  obtain ⟨g5, h⟩ := gd_some h
  refine z_iald hC sh_5 g5 dX0_take_36 ?_
  refine z_aload_n hC dX0_take_37 rfl rfl ?_
  refine z_getR hC 5 kF_X0_18 sh_2 rfl dX0_take_38 ?_
  refine z_iload_n hC dX0_take_41 rfl rfl ?_
  obtain ⟨g6, h⟩ := gd_some h
  refine z_iald hC sh_5 g6 dX0_take_42 ?_
  refine z_iconst (v := -1) hC dX0_take_43 (by decide) ?_
  refine z_ixor hC dX0_take_44 ?_
  refine z_iand hC dX0_take_45 ?_
  refine z_ior hC dX0_take_46 ?_
  refine z_aload_n hC dX0_take_47 rfl rfl ?_
  refine z_getR hC 6 kF_X0_21 sh_2 rfl dX0_take_48 ?_
  refine z_iload_n hC dX0_take_51 rfl rfl ?_
  obtain ⟨g7, h⟩ := gd_some h
  refine z_iald hC sh_6 g7 dX0_take_52 ?_
  refine z_aload_n hC dX0_take_53 rfl rfl ?_
  refine z_getR hC 6 kF_X0_21 sh_2 rfl dX0_take_54 ?_
  refine z_iload_n hC dX0_take_57 rfl rfl ?_
  obtain ⟨g8, h⟩ := gd_some h
  refine z_iald hC sh_6 g8 dX0_take_58 ?_
  refine z_iconst (v := -1) hC dX0_take_59 (by decide) ?_
  refine z_ixor hC dX0_take_60 ?_
  refine z_iand hC dX0_take_61 ?_
  refine z_ior hC dX0_take_62 ?_
  refine y_istore_n hC [some (.ref (cS C 2)), some (.int x1), some (.int x2), some (.int (((((u 3 x2.toNatClampNeg) &&& ((u 3 x1.toNatClampNeg) ^^^ ((-1)))) ||| ((u 4 x2.toNatClampNeg) &&& ((u 4 x1.toNatClampNeg) ^^^ ((-1))))) ||| ((u 5 x2.toNatClampNeg) &&& ((u 5 x1.toNatClampNeg) ^^^ ((-1))))) ||| ((u 6 x2.toNatClampNeg) &&& ((u 6 x1.toNatClampNeg) ^^^ ((-1))))))] dX0_take_63 rfl rfl (Nat.le_of_ble_eq_true rfl) (Nat.le_of_ble_eq_true rfl) rfl ?_
  refine z_aload_n hC dX0_take_64 rfl rfl ?_
  refine z_getR hC 3 kF_X0_11 sh_2 rfl dX0_take_65 ?_
  refine z_iload_n hC dX0_take_68 rfl rfl ?_
  refine z_dup2 hC dX0_take_69 rfl rfl ?_
  obtain ⟨g9, h⟩ := gd_some h
  refine z_iald hC sh_3 g9 dX0_take_70 ?_
  refine z_aload_n hC dX0_take_71 rfl rfl ?_
  refine z_getR hC 3 kF_X0_11 sh_2 rfl dX0_take_72 ?_
  refine z_iload_n hC dX0_take_75 rfl rfl ?_
  obtain ⟨g10, h⟩ := gd_some h
  refine z_iald hC sh_3 g10 dX0_take_76 ?_
  refine z_ior hC dX0_take_77 ?_
  obtain ⟨g11, h⟩ := gd_some h
  obtain ⟨u12, e12, h⟩ := mS_some h
  refine y_iast hC sh_3 g11 dX0_take_78 e12 ?_
  refine z_aload_n hC dX0_take_79 rfl rfl ?_
  refine z_getR hC 4 kF_X0_15 sh_2 rfl dX0_take_80 ?_
  refine z_iload_n hC dX0_take_83 rfl rfl ?_
  refine z_dup2 hC dX0_take_84 rfl rfl ?_
  obtain ⟨g13, h⟩ := gd_some h
  refine z_iald hC sh_4 g13 dX0_take_85 ?_
  refine z_aload_n hC dX0_take_86 rfl rfl ?_
  refine z_getR hC 4 kF_X0_15 sh_2 rfl dX0_take_87 ?_
  refine z_iload_n hC dX0_take_90 rfl rfl ?_
  obtain ⟨g14, h⟩ := gd_some h
  refine z_iald hC sh_4 g14 dX0_take_91 ?_
  refine z_ior hC dX0_take_92 ?_
  obtain ⟨g15, h⟩ := gd_some h
  obtain ⟨u16, e16, h⟩ := mS_some h
  refine y_iast hC sh_4 g15 dX0_take_93 e16 ?_
  refine z_aload_n hC dX0_take_94 rfl rfl ?_
  refine z_getR hC 5 kF_X0_18 sh_2 rfl dX0_take_95 ?_
  refine z_iload_n hC dX0_take_98 rfl rfl ?_
  refine z_dup2 hC dX0_take_99 rfl rfl ?_
  obtain ⟨g17, h⟩ := gd_some h
  refine z_iald hC sh_5 g17 dX0_take_100 ?_
  refine z_aload_n hC dX0_take_101 rfl rfl ?_
  refine z_getR hC 5 kF_X0_18 sh_2 rfl dX0_take_102 ?_
  refine z_iload_n hC dX0_take_105 rfl rfl ?_
  obtain ⟨g18, h⟩ := gd_some h
  refine z_iald hC sh_5 g18 dX0_take_106 ?_
  refine z_ior hC dX0_take_107 ?_
  obtain ⟨g19, h⟩ := gd_some h
  obtain ⟨u20, e20, h⟩ := mS_some h
  refine y_iast hC sh_5 g19 dX0_take_108 e20 ?_
  refine z_aload_n hC dX0_take_109 rfl rfl ?_
  refine z_getR hC 6 kF_X0_21 sh_2 rfl dX0_take_110 ?_
  refine z_iload_n hC dX0_take_113 rfl rfl ?_
  refine z_dup2 hC dX0_take_114 rfl rfl ?_
  obtain ⟨g21, h⟩ := gd_some h
  refine z_iald hC sh_6 g21 dX0_take_115 ?_
  refine z_aload_n hC dX0_take_116 rfl rfl ?_
  refine z_getR hC 6 kF_X0_21 sh_2 rfl dX0_take_117 ?_
  refine z_iload_n hC dX0_take_120 rfl rfl ?_
  obtain ⟨g22, h⟩ := gd_some h
  refine z_iald hC sh_6 g22 dX0_take_121 ?_
  refine z_ior hC dX0_take_122 ?_
  obtain ⟨g23, h⟩ := gd_some h
  obtain ⟨u24, e24, h⟩ := mS_some h
  refine y_iast hC sh_6 g23 dX0_take_123 e24 ?_
  refine z_iload_n hC dX0_take_124 rfl rfl ?_
  refine z_if_eq hC 132 dX0_take_125 (by decide) (fun b25 => ?_) (fun b25 => ?_)
  · rw [if_pos b25] at h
    refine z_iconst (v := 0) hC dX0_take_132 (by decide) ?_
    obtain rfl := Option.some.inj h
    exact z_zret hC hE rfl dX0_take_133
  · rw [if_neg b25] at h
    refine z_iconst (v := 1) hC dX0_take_128 (by decide) ?_
    refine z_goto hC 133 dX0_take_129 (by decide) ?_
    obtain rfl := Option.some.inj h
    exact z_zret hC hE rfl dX0_take_133
theorem m_X0_take {l : Launch} {dC : Nat → ClassId} {dI : Nat → Nat → Nat} {dA : Nat → ClassId} {as : Nat → Nat} (hD : mDis as) (x1 : Int32) (x2 : Int32) (u : MU) {r : Int32} {v : MU} (h : f_X0_take x1 x2 u = some (r, v)) : mMI l dC dI dA as yX0_take cX0_take 4 .boolean 0 0 [.ref (as 2), .int x1, .int x2] u r v := mMI.of RX0 [some (.ref (as 2)), some (.int x1), some (.int x2), none] hD (by decide +kernel) rfl (Nat.le_of_ble_eq_true rfl) rfl (fun C e1 e2 e3 e4 e5 hC hE => by subst e5; exact s_X0_take_0 hC (res := (r, v)) hE x1 x2 u h)
set_option maxHeartbeats 4000000 in
set_option maxRecDepth 100000 in
theorem s_X0_takeFromCallees_75 {C : mCtx} (hC : mOK cX0_takeFromCallees RX0 7 1 23 C) {res : Int32 × MU} (hE : mEndI C .boolean res.1 res.2) (q1 : Nat) (hq1 : okX5 q1) (x2 : Int32) (x3 : Int32) (k6 : Int32 → Int32 → MU → mR) (hk6 : ∀ (x4 : Int32) (x5 : Int32) (u : MU), k6 x4 x5 u = some res → wat C u 6 [some (.ref (cS C 2)), some (.ref (cS C q1)), some (.int x2), some (.int x3), some (.int x4), some (.int x5), none] []) (x4 : Int32) (x5 : Int32) (u : MU) (h : b_X0_takeFromCallees_75 k6 q1 x2 x3 x4 x5 u = some res) : wat C u 75 [some (.ref (cS C 2)), some (.ref (cS C q1)), some (.int x2), some (.int x3), some (.int x4), some (.int x5), none] [] := by
  unfold b_X0_takeFromCallees_75 at h
  refine y_iinc hC (x5 + 1) [some (.ref (cS C 2)), some (.ref (cS C q1)), some (.int x2), some (.int x3), some (.int x4), some (.int (x5 + 1)), none] dX0_takeFromCallees_75 rfl rfl rfl (Nat.le_of_ble_eq_true rfl) rfl ?_
  refine z_goto hC 6 dX0_takeFromCallees_78 (by decide) ?_
  exact hk6 x4 (x5 + 1) u h
set_option maxHeartbeats 4000000 in
set_option maxRecDepth 100000 in
theorem s_X0_takeFromCallees_73 {C : mCtx} (hC : mOK cX0_takeFromCallees RX0 7 1 23 C) {res : Int32 × MU} (hE : mEndI C .boolean res.1 res.2) (q1 : Nat) (hq1 : okX5 q1) (x2 : Int32) (x3 : Int32) (k6 : Int32 → Int32 → MU → mR) (hk6 : ∀ (x4 : Int32) (x5 : Int32) (u : MU), k6 x4 x5 u = some res → wat C u 6 [some (.ref (cS C 2)), some (.ref (cS C q1)), some (.int x2), some (.int x3), some (.int x4), some (.int x5), none] []) (x5 : Int32) (s0 : Int32) (u : MU) (h : b_X0_takeFromCallees_73 k6 q1 x2 x3 x5 s0 u = some res) : wat C u 73 [some (.ref (cS C 2)), some (.ref (cS C q1)), some (.int x2), some (.int x3), none, some (.int x5), none] [(.int s0)] := by
  unfold b_X0_takeFromCallees_73 at h
  refine y_istore hC [some (.ref (cS C 2)), some (.ref (cS C q1)), some (.int x2), some (.int x3), some (.int s0), some (.int x5), none] dX0_takeFromCallees_73 rfl (Nat.le_of_ble_eq_true rfl) (Nat.le_of_ble_eq_true rfl) rfl ?_
  exact s_X0_takeFromCallees_75 hC hE q1 hq1 x2 x3 k6 hk6 s0 x5 u h
set_option maxHeartbeats 4000000 in
set_option maxRecDepth 100000 in
theorem s_X0_takeFromCallees_68 {C : mCtx} (hC : mOK cX0_takeFromCallees RX0 7 1 23 C) {res : Int32 × MU} (hE : mEndI C .boolean res.1 res.2) (q1 : Nat) (hq1 : okX5 q1) (x2 : Int32) (x3 : Int32) (k6 : Int32 → Int32 → MU → mR) (hk6 : ∀ (x4 : Int32) (x5 : Int32) (u : MU), k6 x4 x5 u = some res → wat C u 6 [some (.ref (cS C 2)), some (.ref (cS C q1)), some (.int x2), some (.int x3), some (.int x4), some (.int x5), none] []) (x5 : Int32) (u : MU) (h : b_X0_takeFromCallees_68 k6 q1 x2 x3 x5 u = some res) : wat C u 68 [some (.ref (cS C 2)), some (.ref (cS C q1)), some (.int x2), some (.int x3), none, some (.int x5), none] [] := by
  unfold b_X0_takeFromCallees_68 at h
  refine z_iconst (v := 1) hC dX0_takeFromCallees_68 (by decide) ?_
  refine z_goto hC 73 dX0_takeFromCallees_69 (by decide) ?_
  exact s_X0_takeFromCallees_73 hC hE q1 hq1 x2 x3 k6 hk6 x5 1 u h
set_option maxHeartbeats 4000000 in
set_option maxRecDepth 100000 in
theorem s_X0_takeFromCallees_6 {C : mCtx} (hC : mOK cX0_takeFromCallees RX0 7 1 23 C) {res : Int32 × MU} (hE : mEndI C .boolean res.1 res.2) (q1 : Nat) (hq1 : okX5 q1) (x2 : Int32) (x3 : Int32) (k6 : Int32 → Int32 → MU → mR) (hk6 : ∀ (x4 : Int32) (x5 : Int32) (u : MU), k6 x4 x5 u = some res → wat C u 6 [some (.ref (cS C 2)), some (.ref (cS C q1)), some (.int x2), some (.int x3), some (.int x4), some (.int x5), none] []) (x4 : Int32) (x5 : Int32) (u : MU) (h : b_X0_takeFromCallees_6 k6 q1 x2 x3 x4 x5 u = some res) : wat C u 6 [some (.ref (cS C 2)), some (.ref (cS C q1)), some (.int x2), some (.int x3), some (.int x4), some (.int x5), none] [] := by
  unfold b_X0_takeFromCallees_6 at h
  refine z_iload hC dX0_takeFromCallees_6 rfl ?_
  refine z_aload_n hC dX0_takeFromCallees_8 rfl rfl ?_
  refine z_getI hC kF_X0_73 hq1.1 rfl dX0_takeFromCallees_9 ?_
  refine z_icmp_ge hC 81 dX0_takeFromCallees_12 (by decide) (fun b1 => ?_) (fun b1 => ?_)
  · rw [if_pos b1] at h
    refine z_iload hC dX0_takeFromCallees_81 rfl ?_
    obtain ⟨g2, h⟩ := gd_some h
    obtain rfl := Option.some.inj h
    exact z_zret hC hE g2 dX0_takeFromCallees_83
  · rw [if_neg b1] at h
    refine z_aload_n hC dX0_takeFromCallees_15 rfl rfl ?_
    refine z_getR hC (q1 + 2) kF_X0_83 hq1.1 rfl dX0_takeFromCallees_16 ?_
    refine z_iload hC dX0_takeFromCallees_19 rfl ?_
    obtain ⟨g3, h⟩ := gd_some h
    refine z_iald hC hq1.2.2.1 g3 dX0_takeFromCallees_21 ?_
    refine z_iconst (v := 3) hC dX0_takeFromCallees_22 (by decide) ?_
    refine z_icmp_ne hC 75 dX0_takeFromCallees_23 (by decide) (fun b4 => ?_) (fun b4 => ?_)
    · rw [if_neg b4] at h
      exact s_X0_takeFromCallees_75 hC hE q1 hq1 x2 x3 k6 hk6 x4 x5 u h
    · rw [if_pos b4] at h
      refine z_aload_n hC dX0_takeFromCallees_26 rfl rfl ?_
      refine z_getR hC (q1 + 3) kF_X0_76 hq1.1 rfl dX0_takeFromCallees_27 ?_
      refine z_iload hC dX0_takeFromCallees_30 rfl ?_
      obtain ⟨g5, h⟩ := gd_some h
      refine z_iald hC hq1.2.2.2.1 g5 dX0_takeFromCallees_32 ?_
      refine z_iload_n hC dX0_takeFromCallees_33 rfl rfl ?_
      obtain ⟨r6, u6, c6, h⟩ := mB_some h
      refine z_callNI hC kC_X6_placeOf kM_X0_79 (m_X6_placeOf hC.dis (u (q1 + 3) x5.toNatClampNeg) x3 u c6) rfl (Nat.le_of_ble_eq_true rfl) (Nat.le_of_ble_eq_true rfl) (Nat.le_of_ble_eq_true rfl) rfl dX0_takeFromCallees_34 ?_
      refine z_bipush (v := 6) hC dX0_takeFromCallees_37 (by decide) ?_
      refine z_isub hC dX0_takeFromCallees_39 ?_
      refine y_istore hC [some (.ref (cS C 2)), some (.ref (cS C q1)), some (.int x2), some (.int x3), some (.int x4), some (.int x5), some (.int (r6 - 6))] dX0_takeFromCallees_40 rfl (Nat.le_of_ble_eq_true rfl) (Nat.le_of_ble_eq_true rfl) rfl ?_
      refine z_aload_n hC dX0_takeFromCallees_42 rfl rfl ?_
      refine z_iload_n hC dX0_takeFromCallees_43 rfl rfl ?_
      refine z_aload_n hC dX0_takeFromCallees_44 rfl rfl ?_
      refine z_getR hC (q1 + 4) kF_X0_99 hq1.1 rfl dX0_takeFromCallees_45 ?_
      refine z_iload hC dX0_takeFromCallees_48 rfl ?_
      obtain ⟨g7, h⟩ := gd_some h
      refine z_iald hC hq1.2.2.2.2.1 g7 dX0_takeFromCallees_50 ?_
      refine z_bipush (v := 12) hC dX0_takeFromCallees_51 (by decide) ?_
      refine z_imul hC dX0_takeFromCallees_53 ?_
      refine z_iload hC dX0_takeFromCallees_54 rfl ?_
      refine z_iadd hC dX0_takeFromCallees_56 ?_
      obtain ⟨r8, u8, c8, h⟩ := mB_some h
      refine z_callI hC kC_X0_take kM_X0_102 sh_2 TX0 6 rfl (m_X0_take hC.dis x2 (((u6 (q1 + 4) x5.toNatClampNeg) * 12) + (r6 - 6)) u6 c8) rfl (Nat.le_of_ble_eq_true rfl) (Nat.le_of_ble_eq_true rfl) (Nat.le_of_ble_eq_true rfl) rfl dX0_takeFromCallees_57 ?_
      refine z_if_ne hC 68 dX0_takeFromCallees_60 (by decide) (fun b9 => ?_) (fun b9 => ?_)
      · rw [if_neg b9] at h
        refine z_mask [true, true, true, true, false, true, false] ?_
        exact s_X0_takeFromCallees_68 hC hE q1 hq1 x2 x3 k6 hk6 x5 u8 h
      · rw [if_pos b9] at h
        refine z_iload hC dX0_takeFromCallees_63 rfl ?_
        refine z_if_eq hC 72 dX0_takeFromCallees_65 (by decide) (fun b10 => ?_) (fun b10 => ?_)
        · rw [if_pos b10] at h
          refine z_iconst (v := 0) hC dX0_takeFromCallees_72 (by decide) ?_
          refine z_mask [true, true, true, true, false, true, false] ?_
          exact s_X0_takeFromCallees_73 hC hE q1 hq1 x2 x3 k6 hk6 x5 0 u8 h
        · rw [if_neg b10] at h
          refine z_mask [true, true, true, true, false, true, false] ?_
          exact s_X0_takeFromCallees_68 hC hE q1 hq1 x2 x3 k6 hk6 x5 u8 h
set_option maxHeartbeats 4000000 in
set_option maxRecDepth 100000 in
theorem t_X0_takeFromCallees_6 {C : mCtx} (hC : mOK cX0_takeFromCallees RX0 7 1 23 C) {res : Int32 × MU} (hE : mEndI C .boolean res.1 res.2) (q1 : Nat) (hq1 : okX5 q1) (x2 : Int32) (x3 : Int32) : ∀ (n : Nat) (x4 : Int32) (x5 : Int32) (u : MU), l_X0_takeFromCallees_6 q1 x2 x3 n x4 x5 u = some res → wat C u 6 [some (.ref (cS C 2)), some (.ref (cS C q1)), some (.int x2), some (.int x3), some (.int x4), some (.int x5), none] [] := by
  intro n
  induction n with
  | zero => intro x4 x5 u h; exact absurd h (by simp [l_X0_takeFromCallees_6])
  | succ n ih =>
    intro x4 x5 u h
    exact s_X0_takeFromCallees_6 hC hE q1 hq1 x2 x3 (fun x4 x5 u => l_X0_takeFromCallees_6 q1 x2 x3 n x4 x5 u) ih x4 x5 u h
set_option maxHeartbeats 4000000 in
set_option maxRecDepth 100000 in
theorem s_X0_takeFromCallees_0 {C : mCtx} (hC : mOK cX0_takeFromCallees RX0 7 1 23 C) {res : Int32 × MU} (hE : mEndI C .boolean res.1 res.2) (q1 : Nat) (hq1 : okX5 q1) (x2 : Int32) (x3 : Int32) (u : MU) (h : f_X0_takeFromCallees q1 x2 x3 u = some res) : wat C u 0 [some (.ref (cS C 2)), some (.ref (cS C q1)), some (.int x2), some (.int x3), none, none, none] [] := by
  unfold f_X0_takeFromCallees at h
  refine z_iconst (v := 0) hC dX0_takeFromCallees_0 (by decide) ?_
  refine y_istore hC [some (.ref (cS C 2)), some (.ref (cS C q1)), some (.int x2), some (.int x3), some (.int 0), none, none] dX0_takeFromCallees_1 rfl (Nat.le_of_ble_eq_true rfl) (Nat.le_of_ble_eq_true rfl) rfl ?_
  refine z_iconst (v := 0) hC dX0_takeFromCallees_3 (by decide) ?_
  refine y_istore hC [some (.ref (cS C 2)), some (.ref (cS C q1)), some (.int x2), some (.int x3), some (.int 0), some (.int 0), none] dX0_takeFromCallees_4 rfl (Nat.le_of_ble_eq_true rfl) (Nat.le_of_ble_eq_true rfl) rfl ?_
  exact t_X0_takeFromCallees_6 hC hE q1 hq1 x2 x3 FU 0 0 u h
theorem m_X0_takeFromCallees {l : Launch} {dC : Nat → ClassId} {dI : Nat → Nat → Nat} {dA : Nat → ClassId} {as : Nat → Nat} (hD : mDis as) (q1 : Nat) (hq1 : okX5 q1) (x2 : Int32) (x3 : Int32) (u : MU) {r : Int32} {v : MU} (h : f_X0_takeFromCallees q1 x2 x3 u = some (r, v)) : mMI l dC dI dA as yX0_takeFromCallees cX0_takeFromCallees 7 .boolean 1 23 [.ref (as 2), .ref (as q1), .int x2, .int x3] u r v := mMI.of RX0 [some (.ref (as 2)), some (.ref (as q1)), some (.int x2), some (.int x3), none, none, none] hD (by decide +kernel) rfl (Nat.le_of_ble_eq_true rfl) rfl (fun C e1 e2 e3 e4 e5 hC hE => by subst e5; exact s_X0_takeFromCallees_0 hC (res := (r, v)) hE q1 hq1 x2 x3 u h)
end
