section
-- ===== PART A: goes FIRST, ahead of the names: the tables' words, and 'selects' of the private methods out of them =====
/-- a private method of a class that the tables say can be made, by its rows of tables_1 -/
def lw_okq (q : MethodName × Nat) : Prop := (q.1.cls ≠ "java/lang/invoke/MethodHandle" ∧ q.1.cls ≠ "java/lang/invoke/VarHandle") ∧ Cond.instantiable q.1.cls q.2 ∈ tables_1 ∧ Cond.privateMethod q.1 ∈ tables_1 ∧ Cond.instanceMethod q.1 ∈ tables_1
theorem lw_p0 : lw_okq (⟨"TornStreams", "firstWrongByte", "()I"⟩, 8) := ⟨⟨by decide +kernel, by decide +kernel⟩, List.mem_of_getElem? (i := 16) (by decide +kernel), List.mem_of_getElem? (i := 323) (by decide +kernel), List.mem_of_getElem? (i := 324) (by decide +kernel)⟩
theorem lw_p1 : lw_okq (⟨"TornStreams", "record", "()V"⟩, 8) := ⟨⟨by decide +kernel, by decide +kernel⟩, List.mem_of_getElem? (i := 16) (by decide +kernel), List.mem_of_getElem? (i := 330) (by decide +kernel), List.mem_of_getElem? (i := 331) (by decide +kernel)⟩
theorem lw_p2 : lw_okq (⟨"TornStreams", "dropOldest", "()V"⟩, 8) := ⟨⟨by decide +kernel, by decide +kernel⟩, List.mem_of_getElem? (i := 16) (by decide +kernel), List.mem_of_getElem? (i := 334) (by decide +kernel), List.mem_of_getElem? (i := 335) (by decide +kernel)⟩
theorem lw_p3 : lw_okq (⟨"TornStreams$Segments", "put", "(I[BIII)V"⟩, 4) := ⟨⟨by decide +kernel, by decide +kernel⟩, List.mem_of_getElem? (i := 122) (by decide +kernel), List.mem_of_getElem? (i := 371) (by decide +kernel), List.mem_of_getElem? (i := 372) (by decide +kernel)⟩
theorem lw_p4 : lw_okq (⟨"TornStreams", "wordsChanged", "()V"⟩, 8) := ⟨⟨by decide +kernel, by decide +kernel⟩, List.mem_of_getElem? (i := 16) (by decide +kernel), List.mem_of_getElem? (i := 388) (by decide +kernel), List.mem_of_getElem? (i := 389) (by decide +kernel)⟩
theorem lw_p5 : lw_okq (⟨"TornStreams$Automaton", "addChildren", "(LTornStreams$Words;II)V"⟩, 9) := ⟨⟨by decide +kernel, by decide +kernel⟩, List.mem_of_getElem? (i := 24) (by decide +kernel), List.mem_of_getElem? (i := 399) (by decide +kernel), List.mem_of_getElem? (i := 400) (by decide +kernel)⟩
theorem lw_p6 : lw_okq (⟨"TornStreams$Automaton", "added", "(III)I"⟩, 9) := ⟨⟨by decide +kernel, by decide +kernel⟩, List.mem_of_getElem? (i := 24) (by decide +kernel), List.mem_of_getElem? (i := 407) (by decide +kernel), List.mem_of_getElem? (i := 408) (by decide +kernel)⟩
theorem lw_p7 : lw_okq (⟨"TornStreams$Automaton", "link", "(I)V"⟩, 9) := ⟨⟨by decide +kernel, by decide +kernel⟩, List.mem_of_getElem? (i := 24) (by decide +kernel), List.mem_of_getElem? (i := 412) (by decide +kernel), List.mem_of_getElem? (i := 413) (by decide +kernel)⟩
theorem lw_p8 : lw_okq (⟨"TornStreams", "segmentError", "(II)I"⟩, 8) := ⟨⟨by decide +kernel, by decide +kernel⟩, List.mem_of_getElem? (i := 16) (by decide +kernel), List.mem_of_getElem? (i := 466) (by decide +kernel), List.mem_of_getElem? (i := 467) (by decide +kernel)⟩
theorem lw_p9 : lw_okq (⟨"TornStreams", "handled", "(LTornStreams$State;II)I"⟩, 8) := ⟨⟨by decide +kernel, by decide +kernel⟩, List.mem_of_getElem? (i := 16) (by decide +kernel), List.mem_of_getElem? (i := 478) (by decide +kernel), List.mem_of_getElem? (i := 479) (by decide +kernel)⟩
theorem lw_p10 : lw_okq (⟨"TornStreams$State", "movedToEnd", "(I)LTornStreams$Flow;"⟩, 6) := ⟨⟨by decide +kernel, by decide +kernel⟩, List.mem_of_getElem? (i := 68) (by decide +kernel), List.mem_of_getElem? (i := 495) (by decide +kernel), List.mem_of_getElem? (i := 496) (by decide +kernel)⟩
theorem lw_p11 : lw_okq (⟨"TornStreams$Flow", "deliver", "()V"⟩, 12) := ⟨⟨by decide +kernel, by decide +kernel⟩, List.mem_of_getElem? (i := 116) (by decide +kernel), List.mem_of_getElem? (i := 513) (by decide +kernel), List.mem_of_getElem? (i := 514) (by decide +kernel)⟩
theorem lw_p12 : lw_okq (⟨"TornStreams$Flow", "chosenPiece", "(I)I"⟩, 12) := ⟨⟨by decide +kernel, by decide +kernel⟩, List.mem_of_getElem? (i := 116) (by decide +kernel), List.mem_of_getElem? (i := 517) (by decide +kernel), List.mem_of_getElem? (i := 518) (by decide +kernel)⟩
theorem lw_p13 : lw_okq (⟨"TornStreams$Flow", "isPreferred", "(II)Z"⟩, 12) := ⟨⟨by decide +kernel, by decide +kernel⟩, List.mem_of_getElem? (i := 116) (by decide +kernel), List.mem_of_getElem? (i := 525) (by decide +kernel), List.mem_of_getElem? (i := 526) (by decide +kernel)⟩
theorem lw_p14 : lw_okq (⟨"TornStreams$Flow", "isDisputed", "(II)Z"⟩, 12) := ⟨⟨by decide +kernel, by decide +kernel⟩, List.mem_of_getElem? (i := 116) (by decide +kernel), List.mem_of_getElem? (i := 534) (by decide +kernel), List.mem_of_getElem? (i := 535) (by decide +kernel)⟩
theorem lw_p15 : lw_okq (⟨"TornStreams$Reader", "come", "(III)V"⟩, 15) := ⟨⟨by decide +kernel, by decide +kernel⟩, List.mem_of_getElem? (i := 148) (by decide +kernel), List.mem_of_getElem? (i := 542) (by decide +kernel), List.mem_of_getElem? (i := 543) (by decide +kernel)⟩
def lw_privs_1 : List (MethodName × Nat) := [(⟨"TornStreams", "firstWrongByte", "()I"⟩, 8), (⟨"TornStreams", "record", "()V"⟩, 8), (⟨"TornStreams", "dropOldest", "()V"⟩, 8), (⟨"TornStreams$Segments", "put", "(I[BIII)V"⟩, 4), (⟨"TornStreams", "wordsChanged", "()V"⟩, 8), (⟨"TornStreams$Automaton", "addChildren", "(LTornStreams$Words;II)V"⟩, 9), (⟨"TornStreams$Automaton", "added", "(III)I"⟩, 9), (⟨"TornStreams$Automaton", "link", "(I)V"⟩, 9), (⟨"TornStreams", "segmentError", "(II)I"⟩, 8), (⟨"TornStreams", "handled", "(LTornStreams$State;II)I"⟩, 8), (⟨"TornStreams$State", "movedToEnd", "(I)LTornStreams$Flow;"⟩, 6), (⟨"TornStreams$Flow", "deliver", "()V"⟩, 12), (⟨"TornStreams$Flow", "chosenPiece", "(I)I"⟩, 12), (⟨"TornStreams$Flow", "isPreferred", "(II)Z"⟩, 12), (⟨"TornStreams$Flow", "isDisputed", "(II)Z"⟩, 12), (⟨"TornStreams$Reader", "come", "(III)V"⟩, 15)]
theorem lw_r1 : ∀ q ∈ lw_privs_1, lw_okq q := List.forall_mem_cons.mpr ⟨lw_p0, List.forall_mem_cons.mpr ⟨lw_p1, List.forall_mem_cons.mpr ⟨lw_p2, List.forall_mem_cons.mpr ⟨lw_p3, List.forall_mem_cons.mpr ⟨lw_p4, List.forall_mem_cons.mpr ⟨lw_p5, List.forall_mem_cons.mpr ⟨lw_p6, List.forall_mem_cons.mpr ⟨lw_p7, List.forall_mem_cons.mpr ⟨lw_p8, List.forall_mem_cons.mpr ⟨lw_p9, List.forall_mem_cons.mpr ⟨lw_p10, List.forall_mem_cons.mpr ⟨lw_p11, List.forall_mem_cons.mpr ⟨lw_p12, List.forall_mem_cons.mpr ⟨lw_p13, List.forall_mem_cons.mpr ⟨lw_p14, List.forall_mem_cons.mpr ⟨lw_p15, fun _ h => absurd h List.not_mem_nil⟩⟩⟩⟩⟩⟩⟩⟩⟩⟩⟩⟩⟩⟩⟩⟩
theorem lw_p16 : lw_okq (⟨"TornStreams$Reader", "isDropped", "(I)Z"⟩, 15) := ⟨⟨by decide +kernel, by decide +kernel⟩, List.mem_of_getElem? (i := 148) (by decide +kernel), List.mem_of_getElem? (i := 546) (by decide +kernel), List.mem_of_getElem? (i := 547) (by decide +kernel)⟩
theorem lw_p17 : lw_okq (⟨"TornStreams$Reader", "firstIndexOf", "(I)I"⟩, 15) := ⟨⟨by decide +kernel, by decide +kernel⟩, List.mem_of_getElem? (i := 148) (by decide +kernel), List.mem_of_getElem? (i := 560) (by decide +kernel), List.mem_of_getElem? (i := 561) (by decide +kernel)⟩
theorem lw_p18 : lw_okq (⟨"TornStreams$Segments", "isCoveredBefore", "(II)Z"⟩, 4) := ⟨⟨by decide +kernel, by decide +kernel⟩, List.mem_of_getElem? (i := 122) (by decide +kernel), List.mem_of_getElem? (i := 592) (by decide +kernel), List.mem_of_getElem? (i := 593) (by decide +kernel)⟩
theorem lw_p19 : lw_okq (⟨"TornStreams$Flow", "skipGap", "()V"⟩, 12) := ⟨⟨by decide +kernel, by decide +kernel⟩, List.mem_of_getElem? (i := 116) (by decide +kernel), List.mem_of_getElem? (i := 596) (by decide +kernel), List.mem_of_getElem? (i := 597) (by decide +kernel)⟩
theorem lw_p20 : lw_okq (⟨"TornStreams", "wordsBy", "(LTornStreams$Flow;I)I"⟩, 8) := ⟨⟨by decide +kernel, by decide +kernel⟩, List.mem_of_getElem? (i := 16) (by decide +kernel), List.mem_of_getElem? (i := 700) (by decide +kernel), List.mem_of_getElem? (i := 701) (by decide +kernel)⟩
theorem lw_p21 : lw_okq (⟨"TornStreamsModel", "lays", "()V"⟩, 17) := ⟨⟨by decide +kernel, by decide +kernel⟩, List.mem_of_getElem? (i := 736) (by decide +kernel), List.mem_of_getElem? (i := 742) (by decide +kernel), List.mem_of_getElem? (i := 743) (by decide +kernel)⟩
theorem lw_p22 : lw_okq (⟨"TornStreamsModel", "wordLength", "(I)I"⟩, 17) := ⟨⟨by decide +kernel, by decide +kernel⟩, List.mem_of_getElem? (i := 736) (by decide +kernel), List.mem_of_getElem? (i := 746) (by decide +kernel), List.mem_of_getElem? (i := 747) (by decide +kernel)⟩
theorem lw_p23 : lw_okq (⟨"TornStreamsModel", "letterOf", "(II)I"⟩, 17) := ⟨⟨by decide +kernel, by decide +kernel⟩, List.mem_of_getElem? (i := 736) (by decide +kernel), List.mem_of_getElem? (i := 750) (by decide +kernel), List.mem_of_getElem? (i := 751) (by decide +kernel)⟩
theorem lw_p24 : lw_okq (⟨"TornStreamsModel", "inserts", "(I)V"⟩, 17) := ⟨⟨by decide +kernel, by decide +kernel⟩, List.mem_of_getElem? (i := 736) (by decide +kernel), List.mem_of_getElem? (i := 754) (by decide +kernel), List.mem_of_getElem? (i := 755) (by decide +kernel)⟩
theorem lw_p25 : lw_okq (⟨"TornStreamsModel", "order", "(II)I"⟩, 17) := ⟨⟨by decide +kernel, by decide +kernel⟩, List.mem_of_getElem? (i := 736) (by decide +kernel), List.mem_of_getElem? (i := 758) (by decide +kernel), List.mem_of_getElem? (i := 759) (by decide +kernel)⟩
theorem lw_p26 : lw_okq (⟨"TornStreamsModel", "endsWith", "(II)Z"⟩, 17) := ⟨⟨by decide +kernel, by decide +kernel⟩, List.mem_of_getElem? (i := 736) (by decide +kernel), List.mem_of_getElem? (i := 762) (by decide +kernel), List.mem_of_getElem? (i := 763) (by decide +kernel)⟩
theorem lw_p27 : lw_okq (⟨"TornStreamsModel", "takes", "(I)V"⟩, 17) := ⟨⟨by decide +kernel, by decide +kernel⟩, List.mem_of_getElem? (i := 736) (by decide +kernel), List.mem_of_getElem? (i := 766) (by decide +kernel), List.mem_of_getElem? (i := 767) (by decide +kernel)⟩
theorem lw_p28 : lw_okq (⟨"TornStreamsModel", "nodeOf", "(II)I"⟩, 17) := ⟨⟨by decide +kernel, by decide +kernel⟩, List.mem_of_getElem? (i := 736) (by decide +kernel), List.mem_of_getElem? (i := 770) (by decide +kernel), List.mem_of_getElem? (i := 771) (by decide +kernel)⟩
theorem lw_p29 : lw_okq (⟨"TornStreamsModel", "longest", "(II)I"⟩, 17) := ⟨⟨by decide +kernel, by decide +kernel⟩, List.mem_of_getElem? (i := 736) (by decide +kernel), List.mem_of_getElem? (i := 774) (by decide +kernel), List.mem_of_getElem? (i := 775) (by decide +kernel)⟩
theorem lw_p30 : lw_okq (⟨"TornStreamsModel", "faultOf", "()I"⟩, 17) := ⟨⟨by decide +kernel, by decide +kernel⟩, List.mem_of_getElem? (i := 736) (by decide +kernel), List.mem_of_getElem? (i := 848) (by decide +kernel), List.mem_of_getElem? (i := 849) (by decide +kernel)⟩
theorem lw_p31 : lw_okq (⟨"TornStreamsModel", "begins", "()V"⟩, 17) := ⟨⟨by decide +kernel, by decide +kernel⟩, List.mem_of_getElem? (i := 736) (by decide +kernel), List.mem_of_getElem? (i := 852) (by decide +kernel), List.mem_of_getElem? (i := 853) (by decide +kernel)⟩
def lw_privs_2 : List (MethodName × Nat) := [(⟨"TornStreams$Reader", "isDropped", "(I)Z"⟩, 15), (⟨"TornStreams$Reader", "firstIndexOf", "(I)I"⟩, 15), (⟨"TornStreams$Segments", "isCoveredBefore", "(II)Z"⟩, 4), (⟨"TornStreams$Flow", "skipGap", "()V"⟩, 12), (⟨"TornStreams", "wordsBy", "(LTornStreams$Flow;I)I"⟩, 8), (⟨"TornStreamsModel", "lays", "()V"⟩, 17), (⟨"TornStreamsModel", "wordLength", "(I)I"⟩, 17), (⟨"TornStreamsModel", "letterOf", "(II)I"⟩, 17), (⟨"TornStreamsModel", "inserts", "(I)V"⟩, 17), (⟨"TornStreamsModel", "order", "(II)I"⟩, 17), (⟨"TornStreamsModel", "endsWith", "(II)Z"⟩, 17), (⟨"TornStreamsModel", "takes", "(I)V"⟩, 17), (⟨"TornStreamsModel", "nodeOf", "(II)I"⟩, 17), (⟨"TornStreamsModel", "longest", "(II)I"⟩, 17), (⟨"TornStreamsModel", "faultOf", "()I"⟩, 17), (⟨"TornStreamsModel", "begins", "()V"⟩, 17)]
theorem lw_r2 : ∀ q ∈ lw_privs_2, lw_okq q := List.forall_mem_cons.mpr ⟨lw_p16, List.forall_mem_cons.mpr ⟨lw_p17, List.forall_mem_cons.mpr ⟨lw_p18, List.forall_mem_cons.mpr ⟨lw_p19, List.forall_mem_cons.mpr ⟨lw_p20, List.forall_mem_cons.mpr ⟨lw_p21, List.forall_mem_cons.mpr ⟨lw_p22, List.forall_mem_cons.mpr ⟨lw_p23, List.forall_mem_cons.mpr ⟨lw_p24, List.forall_mem_cons.mpr ⟨lw_p25, List.forall_mem_cons.mpr ⟨lw_p26, List.forall_mem_cons.mpr ⟨lw_p27, List.forall_mem_cons.mpr ⟨lw_p28, List.forall_mem_cons.mpr ⟨lw_p29, List.forall_mem_cons.mpr ⟨lw_p30, List.forall_mem_cons.mpr ⟨lw_p31, fun _ h => absurd h List.not_mem_nil⟩⟩⟩⟩⟩⟩⟩⟩⟩⟩⟩⟩⟩⟩⟩⟩
theorem lw_p32 : lw_okq (⟨"TornStreamsModel", "copies", "(II)V"⟩, 17) := ⟨⟨by decide +kernel, by decide +kernel⟩, List.mem_of_getElem? (i := 736) (by decide +kernel), List.mem_of_getElem? (i := 856) (by decide +kernel), List.mem_of_getElem? (i := 857) (by decide +kernel)⟩
theorem lw_p33 : lw_okq (⟨"TornStreamsModel", "others", "()I"⟩, 17) := ⟨⟨by decide +kernel, by decide +kernel⟩, List.mem_of_getElem? (i := 736) (by decide +kernel), List.mem_of_getElem? (i := 860) (by decide +kernel), List.mem_of_getElem? (i := 861) (by decide +kernel)⟩
theorem lw_p34 : lw_okq (⟨"TornStreamsModel", "slot", "(I)I"⟩, 17) := ⟨⟨by decide +kernel, by decide +kernel⟩, List.mem_of_getElem? (i := 736) (by decide +kernel), List.mem_of_getElem? (i := 864) (by decide +kernel), List.mem_of_getElem? (i := 865) (by decide +kernel)⟩
theorem lw_p35 : lw_okq (⟨"TornStreamsModel", "wrong", "(II)I"⟩, 17) := ⟨⟨by decide +kernel, by decide +kernel⟩, List.mem_of_getElem? (i := 736) (by decide +kernel), List.mem_of_getElem? (i := 892) (by decide +kernel), List.mem_of_getElem? (i := 893) (by decide +kernel)⟩
theorem lw_p36 : lw_okq (⟨"TornStreamsModel", "placeOf", "(I)I"⟩, 17) := ⟨⟨by decide +kernel, by decide +kernel⟩, List.mem_of_getElem? (i := 736) (by decide +kernel), List.mem_of_getElem? (i := 896) (by decide +kernel), List.mem_of_getElem? (i := 897) (by decide +kernel)⟩
theorem lw_p37 : lw_okq (⟨"TornStreamsModel", "segments", "(II)V"⟩, 17) := ⟨⟨by decide +kernel, by decide +kernel⟩, List.mem_of_getElem? (i := 736) (by decide +kernel), List.mem_of_getElem? (i := 900) (by decide +kernel), List.mem_of_getElem? (i := 901) (by decide +kernel)⟩
theorem lw_p38 : lw_okq (⟨"TornStreamsModel", "leaves", "(I)V"⟩, 17) := ⟨⟨by decide +kernel, by decide +kernel⟩, List.mem_of_getElem? (i := 736) (by decide +kernel), List.mem_of_getElem? (i := 904) (by decide +kernel), List.mem_of_getElem? (i := 905) (by decide +kernel)⟩
theorem lw_p39 : lw_okq (⟨"TornStreamsModel", "freeSlot", "()I"⟩, 17) := ⟨⟨by decide +kernel, by decide +kernel⟩, List.mem_of_getElem? (i := 736) (by decide +kernel), List.mem_of_getElem? (i := 908) (by decide +kernel), List.mem_of_getElem? (i := 909) (by decide +kernel)⟩
theorem lw_p40 : lw_okq (⟨"TornStreamsModel", "starts", "(IIII)V"⟩, 17) := ⟨⟨by decide +kernel, by decide +kernel⟩, List.mem_of_getElem? (i := 736) (by decide +kernel), List.mem_of_getElem? (i := 912) (by decide +kernel), List.mem_of_getElem? (i := 913) (by decide +kernel)⟩
theorem lw_p41 : lw_okq (⟨"TornStreamsModel", "put", "(II)V"⟩, 17) := ⟨⟨by decide +kernel, by decide +kernel⟩, List.mem_of_getElem? (i := 736) (by decide +kernel), List.mem_of_getElem? (i := 916) (by decide +kernel), List.mem_of_getElem? (i := 917) (by decide +kernel)⟩
theorem lw_p42 : lw_okq (⟨"TornStreamsModel", "of", "(I)I"⟩, 17) := ⟨⟨by decide +kernel, by decide +kernel⟩, List.mem_of_getElem? (i := 736) (by decide +kernel), List.mem_of_getElem? (i := 920) (by decide +kernel), List.mem_of_getElem? (i := 921) (by decide +kernel)⟩
theorem lw_p43 : lw_okq (⟨"TornStreamsModel", "adds", "(II)V"⟩, 17) := ⟨⟨by decide +kernel, by decide +kernel⟩, List.mem_of_getElem? (i := 736) (by decide +kernel), List.mem_of_getElem? (i := 924) (by decide +kernel), List.mem_of_getElem? (i := 925) (by decide +kernel)⟩
theorem lw_p44 : lw_okq (⟨"TornStreamsModel", "handlesText", "(I)V"⟩, 17) := ⟨⟨by decide +kernel, by decide +kernel⟩, List.mem_of_getElem? (i := 736) (by decide +kernel), List.mem_of_getElem? (i := 928) (by decide +kernel), List.mem_of_getElem? (i := 929) (by decide +kernel)⟩
theorem lw_p45 : lw_okq (⟨"TornStreamsModel", "handles", "(III)V"⟩, 17) := ⟨⟨by decide +kernel, by decide +kernel⟩, List.mem_of_getElem? (i := 736) (by decide +kernel), List.mem_of_getElem? (i := 932) (by decide +kernel), List.mem_of_getElem? (i := 933) (by decide +kernel)⟩
theorem lw_p46 : lw_okq (⟨"TornStreamsModel", "pieceAt", "(I)I"⟩, 17) := ⟨⟨by decide +kernel, by decide +kernel⟩, List.mem_of_getElem? (i := 736) (by decide +kernel), List.mem_of_getElem? (i := 936) (by decide +kernel), List.mem_of_getElem? (i := 937) (by decide +kernel)⟩
theorem lw_p47 : lw_okq (⟨"TornStreamsModel", "deliversAll", "()V"⟩, 17) := ⟨⟨by decide +kernel, by decide +kernel⟩, List.mem_of_getElem? (i := 736) (by decide +kernel), List.mem_of_getElem? (i := 940) (by decide +kernel), List.mem_of_getElem? (i := 941) (by decide +kernel)⟩
def lw_privs_3 : List (MethodName × Nat) := [(⟨"TornStreamsModel", "copies", "(II)V"⟩, 17), (⟨"TornStreamsModel", "others", "()I"⟩, 17), (⟨"TornStreamsModel", "slot", "(I)I"⟩, 17), (⟨"TornStreamsModel", "wrong", "(II)I"⟩, 17), (⟨"TornStreamsModel", "placeOf", "(I)I"⟩, 17), (⟨"TornStreamsModel", "segments", "(II)V"⟩, 17), (⟨"TornStreamsModel", "leaves", "(I)V"⟩, 17), (⟨"TornStreamsModel", "freeSlot", "()I"⟩, 17), (⟨"TornStreamsModel", "starts", "(IIII)V"⟩, 17), (⟨"TornStreamsModel", "put", "(II)V"⟩, 17), (⟨"TornStreamsModel", "of", "(I)I"⟩, 17), (⟨"TornStreamsModel", "adds", "(II)V"⟩, 17), (⟨"TornStreamsModel", "handlesText", "(I)V"⟩, 17), (⟨"TornStreamsModel", "handles", "(III)V"⟩, 17), (⟨"TornStreamsModel", "pieceAt", "(I)I"⟩, 17), (⟨"TornStreamsModel", "deliversAll", "()V"⟩, 17)]
theorem lw_r3 : ∀ q ∈ lw_privs_3, lw_okq q := List.forall_mem_cons.mpr ⟨lw_p32, List.forall_mem_cons.mpr ⟨lw_p33, List.forall_mem_cons.mpr ⟨lw_p34, List.forall_mem_cons.mpr ⟨lw_p35, List.forall_mem_cons.mpr ⟨lw_p36, List.forall_mem_cons.mpr ⟨lw_p37, List.forall_mem_cons.mpr ⟨lw_p38, List.forall_mem_cons.mpr ⟨lw_p39, List.forall_mem_cons.mpr ⟨lw_p40, List.forall_mem_cons.mpr ⟨lw_p41, List.forall_mem_cons.mpr ⟨lw_p42, List.forall_mem_cons.mpr ⟨lw_p43, List.forall_mem_cons.mpr ⟨lw_p44, List.forall_mem_cons.mpr ⟨lw_p45, List.forall_mem_cons.mpr ⟨lw_p46, List.forall_mem_cons.mpr ⟨lw_p47, fun _ h => absurd h List.not_mem_nil⟩⟩⟩⟩⟩⟩⟩⟩⟩⟩⟩⟩⟩⟩⟩⟩
theorem lw_p48 : lw_okq (⟨"TornStreamsModel", "chosen", "(I)I"⟩, 17) := ⟨⟨by decide +kernel, by decide +kernel⟩, List.mem_of_getElem? (i := 736) (by decide +kernel), List.mem_of_getElem? (i := 944) (by decide +kernel), List.mem_of_getElem? (i := 945) (by decide +kernel)⟩
theorem lw_p49 : lw_okq (⟨"TornStreamsModel", "covers", "(II)Z"⟩, 17) := ⟨⟨by decide +kernel, by decide +kernel⟩, List.mem_of_getElem? (i := 736) (by decide +kernel), List.mem_of_getElem? (i := 948) (by decide +kernel), List.mem_of_getElem? (i := 949) (by decide +kernel)⟩
theorem lw_p50 : lw_okq (⟨"TornStreamsModel", "isBetter", "(II)Z"⟩, 17) := ⟨⟨by decide +kernel, by decide +kernel⟩, List.mem_of_getElem? (i := 736) (by decide +kernel), List.mem_of_getElem? (i := 952) (by decide +kernel), List.mem_of_getElem? (i := 953) (by decide +kernel)⟩
theorem lw_p51 : lw_okq (⟨"TornStreamsModel", "byteOf", "(II)I"⟩, 17) := ⟨⟨by decide +kernel, by decide +kernel⟩, List.mem_of_getElem? (i := 736) (by decide +kernel), List.mem_of_getElem? (i := 956) (by decide +kernel), List.mem_of_getElem? (i := 957) (by decide +kernel)⟩
theorem lw_p52 : lw_okq (⟨"TornStreamsModel", "isConflict", "(I)Z"⟩, 17) := ⟨⟨by decide +kernel, by decide +kernel⟩, List.mem_of_getElem? (i := 736) (by decide +kernel), List.mem_of_getElem? (i := 960) (by decide +kernel), List.mem_of_getElem? (i := 961) (by decide +kernel)⟩
theorem lw_p53 : lw_okq (⟨"TornStreamsModel", "delivers", "(II)V"⟩, 17) := ⟨⟨by decide +kernel, by decide +kernel⟩, List.mem_of_getElem? (i := 736) (by decide +kernel), List.mem_of_getElem? (i := 964) (by decide +kernel), List.mem_of_getElem? (i := 965) (by decide +kernel)⟩
theorem lw_p54 : lw_okq (⟨"TornStreamsModel", "character", "(III)V"⟩, 17) := ⟨⟨by decide +kernel, by decide +kernel⟩, List.mem_of_getElem? (i := 736) (by decide +kernel), List.mem_of_getElem? (i := 971) (by decide +kernel), List.mem_of_getElem? (i := 972) (by decide +kernel)⟩
theorem lw_p55 : lw_okq (⟨"TornStreamsModel", "has", "(I)Z"⟩, 17) := ⟨⟨by decide +kernel, by decide +kernel⟩, List.mem_of_getElem? (i := 736) (by decide +kernel), List.mem_of_getElem? (i := 975) (by decide +kernel), List.mem_of_getElem? (i := 976) (by decide +kernel)⟩
theorem lw_p56 : lw_okq (⟨"TornStreamsModel", "reads", "(III)V"⟩, 17) := ⟨⟨by decide +kernel, by decide +kernel⟩, List.mem_of_getElem? (i := 736) (by decide +kernel), List.mem_of_getElem? (i := 979) (by decide +kernel), List.mem_of_getElem? (i := 980) (by decide +kernel)⟩
theorem lw_p57 : lw_okq (⟨"TornStreamsModel", "steps", "(I)V"⟩, 17) := ⟨⟨by decide +kernel, by decide +kernel⟩, List.mem_of_getElem? (i := 736) (by decide +kernel), List.mem_of_getElem? (i := 983) (by decide +kernel), List.mem_of_getElem? (i := 984) (by decide +kernel)⟩
theorem lw_p58 : lw_okq (⟨"TornStreamsModel", "isPossible", "(I)Z"⟩, 17) := ⟨⟨by decide +kernel, by decide +kernel⟩, List.mem_of_getElem? (i := 736) (by decide +kernel), List.mem_of_getElem? (i := 987) (by decide +kernel), List.mem_of_getElem? (i := 988) (by decide +kernel)⟩
theorem lw_p59 : lw_okq (⟨"TornStreamsModel", "laysPossible", "(II)V"⟩, 17) := ⟨⟨by decide +kernel, by decide +kernel⟩, List.mem_of_getElem? (i := 736) (by decide +kernel), List.mem_of_getElem? (i := 997) (by decide +kernel), List.mem_of_getElem? (i := 998) (by decide +kernel)⟩
theorem lw_p60 : lw_okq (⟨"TornStreamsModel", "records", "(III)V"⟩, 17) := ⟨⟨by decide +kernel, by decide +kernel⟩, List.mem_of_getElem? (i := 736) (by decide +kernel), List.mem_of_getElem? (i := 1001) (by decide +kernel), List.mem_of_getElem? (i := 1002) (by decide +kernel)⟩
theorem lw_p61 : lw_okq (⟨"TornStreamsModel", "lets", "()V"⟩, 17) := ⟨⟨by decide +kernel, by decide +kernel⟩, List.mem_of_getElem? (i := 736) (by decide +kernel), List.mem_of_getElem? (i := 1005) (by decide +kernel), List.mem_of_getElem? (i := 1006) (by decide +kernel)⟩
theorem lw_p62 : lw_okq (⟨"TornStreamsModel", "drops", "()V"⟩, 17) := ⟨⟨by decide +kernel, by decide +kernel⟩, List.mem_of_getElem? (i := 736) (by decide +kernel), List.mem_of_getElem? (i := 1009) (by decide +kernel), List.mem_of_getElem? (i := 1010) (by decide +kernel)⟩
theorem lw_p63 : lw_okq (⟨"TornStreamsModel", "covered", "(Z)I"⟩, 17) := ⟨⟨by decide +kernel, by decide +kernel⟩, List.mem_of_getElem? (i := 736) (by decide +kernel), List.mem_of_getElem? (i := 1013) (by decide +kernel), List.mem_of_getElem? (i := 1014) (by decide +kernel)⟩
def lw_privs_4 : List (MethodName × Nat) := [(⟨"TornStreamsModel", "chosen", "(I)I"⟩, 17), (⟨"TornStreamsModel", "covers", "(II)Z"⟩, 17), (⟨"TornStreamsModel", "isBetter", "(II)Z"⟩, 17), (⟨"TornStreamsModel", "byteOf", "(II)I"⟩, 17), (⟨"TornStreamsModel", "isConflict", "(I)Z"⟩, 17), (⟨"TornStreamsModel", "delivers", "(II)V"⟩, 17), (⟨"TornStreamsModel", "character", "(III)V"⟩, 17), (⟨"TornStreamsModel", "has", "(I)Z"⟩, 17), (⟨"TornStreamsModel", "reads", "(III)V"⟩, 17), (⟨"TornStreamsModel", "steps", "(I)V"⟩, 17), (⟨"TornStreamsModel", "isPossible", "(I)Z"⟩, 17), (⟨"TornStreamsModel", "laysPossible", "(II)V"⟩, 17), (⟨"TornStreamsModel", "records", "(III)V"⟩, 17), (⟨"TornStreamsModel", "lets", "()V"⟩, 17), (⟨"TornStreamsModel", "drops", "()V"⟩, 17), (⟨"TornStreamsModel", "covered", "(Z)I"⟩, 17)]
theorem lw_r4 : ∀ q ∈ lw_privs_4, lw_okq q := List.forall_mem_cons.mpr ⟨lw_p48, List.forall_mem_cons.mpr ⟨lw_p49, List.forall_mem_cons.mpr ⟨lw_p50, List.forall_mem_cons.mpr ⟨lw_p51, List.forall_mem_cons.mpr ⟨lw_p52, List.forall_mem_cons.mpr ⟨lw_p53, List.forall_mem_cons.mpr ⟨lw_p54, List.forall_mem_cons.mpr ⟨lw_p55, List.forall_mem_cons.mpr ⟨lw_p56, List.forall_mem_cons.mpr ⟨lw_p57, List.forall_mem_cons.mpr ⟨lw_p58, List.forall_mem_cons.mpr ⟨lw_p59, List.forall_mem_cons.mpr ⟨lw_p60, List.forall_mem_cons.mpr ⟨lw_p61, List.forall_mem_cons.mpr ⟨lw_p62, List.forall_mem_cons.mpr ⟨lw_p63, fun _ h => absurd h List.not_mem_nil⟩⟩⟩⟩⟩⟩⟩⟩⟩⟩⟩⟩⟩⟩⟩⟩
theorem lw_p64 : lw_okq (⟨"TornStreamsModel", "gap", "(I)V"⟩, 17) := ⟨⟨by decide +kernel, by decide +kernel⟩, List.mem_of_getElem? (i := 736) (by decide +kernel), List.mem_of_getElem? (i := 1017) (by decide +kernel), List.mem_of_getElem? (i := 1018) (by decide +kernel)⟩
theorem lw_p65 : lw_okq (⟨"TornStreamsModel", "asked", "(I)I"⟩, 17) := ⟨⟨by decide +kernel, by decide +kernel⟩, List.mem_of_getElem? (i := 736) (by decide +kernel), List.mem_of_getElem? (i := 1025) (by decide +kernel), List.mem_of_getElem? (i := 1026) (by decide +kernel)⟩
theorem lw_p66 : lw_okq (⟨"TornStreamsModel", "propertyNow", "(I)I"⟩, 17) := ⟨⟨by decide +kernel, by decide +kernel⟩, List.mem_of_getElem? (i := 736) (by decide +kernel), List.mem_of_getElem? (i := 1037) (by decide +kernel), List.mem_of_getElem? (i := 1038) (by decide +kernel)⟩
theorem lw_p67 : lw_okq (⟨"TornStreamsModel", "possibleMany", "()I"⟩, 17) := ⟨⟨by decide +kernel, by decide +kernel⟩, List.mem_of_getElem? (i := 736) (by decide +kernel), List.mem_of_getElem? (i := 1041) (by decide +kernel), List.mem_of_getElem? (i := 1042) (by decide +kernel)⟩
theorem lw_p68 : lw_okq (⟨"TornStreamsModel", "byteNow", "(I)I"⟩, 17) := ⟨⟨by decide +kernel, by decide +kernel⟩, List.mem_of_getElem? (i := 736) (by decide +kernel), List.mem_of_getElem? (i := 1049) (by decide +kernel), List.mem_of_getElem? (i := 1050) (by decide +kernel)⟩
theorem lw_p69 : lw_okq (⟨"TornStreamsModel", "possibleNow", "()J"⟩, 17) := ⟨⟨by decide +kernel, by decide +kernel⟩, List.mem_of_getElem? (i := 736) (by decide +kernel), List.mem_of_getElem? (i := 1057) (by decide +kernel), List.mem_of_getElem? (i := 1058) (by decide +kernel)⟩
theorem lw_p70 : lw_okq (⟨"TornStreamsModel", "readNow", "(I)I"⟩, 17) := ⟨⟨by decide +kernel, by decide +kernel⟩, List.mem_of_getElem? (i := 736) (by decide +kernel), List.mem_of_getElem? (i := 1065) (by decide +kernel), List.mem_of_getElem? (i := 1066) (by decide +kernel)⟩
theorem lw_p71 : lw_okq (⟨"TornStreamsModel", "definedSet", "()I"⟩, 17) := ⟨⟨by decide +kernel, by decide +kernel⟩, List.mem_of_getElem? (i := 736) (by decide +kernel), List.mem_of_getElem? (i := 1077) (by decide +kernel), List.mem_of_getElem? (i := 1078) (by decide +kernel)⟩
theorem lw_p72 : lw_okq (⟨"TornStreamsModel", "replays", "(II)I"⟩, 17) := ⟨⟨by decide +kernel, by decide +kernel⟩, List.mem_of_getElem? (i := 736) (by decide +kernel), List.mem_of_getElem? (i := 1089) (by decide +kernel), List.mem_of_getElem? (i := 1090) (by decide +kernel)⟩
theorem lw_p73 : lw_okq (⟨"TornStreamsModel", "mixedFlow", "(JI)J"⟩, 17) := ⟨⟨by decide +kernel, by decide +kernel⟩, List.mem_of_getElem? (i := 736) (by decide +kernel), List.mem_of_getElem? (i := 1113) (by decide +kernel), List.mem_of_getElem? (i := 1114) (by decide +kernel)⟩
def lw_privs_5 : List (MethodName × Nat) := [(⟨"TornStreamsModel", "gap", "(I)V"⟩, 17), (⟨"TornStreamsModel", "asked", "(I)I"⟩, 17), (⟨"TornStreamsModel", "propertyNow", "(I)I"⟩, 17), (⟨"TornStreamsModel", "possibleMany", "()I"⟩, 17), (⟨"TornStreamsModel", "byteNow", "(I)I"⟩, 17), (⟨"TornStreamsModel", "possibleNow", "()J"⟩, 17), (⟨"TornStreamsModel", "readNow", "(I)I"⟩, 17), (⟨"TornStreamsModel", "definedSet", "()I"⟩, 17), (⟨"TornStreamsModel", "replays", "(II)I"⟩, 17), (⟨"TornStreamsModel", "mixedFlow", "(JI)J"⟩, 17)]
theorem lw_r5 : ∀ q ∈ lw_privs_5, lw_okq q := List.forall_mem_cons.mpr ⟨lw_p64, List.forall_mem_cons.mpr ⟨lw_p65, List.forall_mem_cons.mpr ⟨lw_p66, List.forall_mem_cons.mpr ⟨lw_p67, List.forall_mem_cons.mpr ⟨lw_p68, List.forall_mem_cons.mpr ⟨lw_p69, List.forall_mem_cons.mpr ⟨lw_p70, List.forall_mem_cons.mpr ⟨lw_p71, List.forall_mem_cons.mpr ⟨lw_p72, List.forall_mem_cons.mpr ⟨lw_p73, fun _ h => absurd h List.not_mem_nil⟩⟩⟩⟩⟩⟩⟩⟩⟩⟩
def lw_privs : List (MethodName × Nat) := lw_privs_1 ++ (lw_privs_2 ++ (lw_privs_3 ++ (lw_privs_4 ++ (lw_privs_5))))
def lw_tbl : List Cond := k2_sels lw_privs ++ tables_1
theorem lw_privs_ok : ∀ q ∈ lw_privs, lw_okq q := by
  show ∀ q ∈ lw_privs_1 ++ (lw_privs_2 ++ (lw_privs_3 ++ (lw_privs_4 ++ (lw_privs_5)))), lw_okq q
  exact List.forall_mem_append.mpr ⟨lw_r1, List.forall_mem_append.mpr ⟨lw_r2, List.forall_mem_append.mpr ⟨lw_r3, List.forall_mem_append.mpr ⟨lw_r4, lw_r5⟩⟩⟩⟩
end
section

theorem goodIn_r {big : List Cond} (ws : List Cond) (ps : List Nat) (hp : ws = ps.filterMap (fun i => big[i]?)) (h : ws.all goodWord = true) : GoodIn big ws := by
  intro w hw
  have h1 := List.all_eq_true.mp h w hw
  rw [hp] at hw
  obtain ⟨i, -, hi⟩ := List.mem_filterMap.mp hw
  have hm : w ∈ big := by first | exact List.mem_of_getElem? hi | exact List.getElem?_mem hi
  exact ⟨hm, good_of_word h1⟩
theorem goodIn_app {big a b : List Cond} (ha : GoodIn big a) (hb : GoodIn big b) : GoodIn big (a ++ b) := fun w h => (List.mem_append.mp h).elim (ha w) (hb w)
theorem goodIn_ca {big a b : List Cond} {c : Cond} (ha : GoodIn big (c :: a)) (hb : GoodIn big b) : GoodIn big (c :: (a ++ b)) := fun w h => (List.mem_cons.mp h).elim (fun e => ha w (List.mem_cons.mpr (Or.inl e))) (fun h => (List.mem_append.mp h).elim (fun h => ha w (List.mem_cons.mpr (Or.inr h))) (hb w))
theorem goodIn_sub {big ws : List Cond} (hm : ∀ w ∈ ws, w ∈ big) (h : ws.all goodWord = true) : GoodIn big ws := fun w hw => ⟨hm w hw, good_of_word (List.all_eq_true.mp h w hw)⟩
/-! ===== END ===== -/

/-! ===== BEGIN printed: names, fields, word lists, decode rows ===== -/
def RX0 : String := "TornStreams$Automaton"
def TX0 : u_T := fun k => match k with
  | 0 => ("TornStreams$Automaton", "size", "I", false)
  | 1 => ("TornStreams$Automaton", "lengths", "[I", true)
  | 2 => ("TornStreams$Automaton", "parents", "[I", true)
  | 3 => ("TornStreams$Automaton", "lastLetters", "[I", true)
  | 4 => ("TornStreams$Automaton", "fails", "[I", true)
  | 5 => ("TornStreams$Automaton", "wordSets", "[I", true)
  | 6 => ("TornStreams$Automaton", "wordLengths", "[I", true)
  | 7 => ("TornStreams$Automaton", "nexts", "[I", true)
  | _ => ("TornStreams$Automaton", "reached", "[I", true)
def tyX0 : Nat → FieldType := fun k => match k with
  | 0 => .int
  | 1 => .array .int
  | 2 => .array .int
  | 3 => .array .int
  | 4 => .array .int
  | 5 => .array .int
  | 6 => .array .int
  | 7 => .array .int
  | _ => .array .int
abbrev wsX00 : List Cond := u_ws RX0 TX0 9
theorem nmX0 : ∀ a, a < 9 → ∀ b, b < 9 → a ≠ b → (TX0 a).2.1 ≠ (TX0 b).2.1 := by decide +kernel
theorem tyX0_ok : ∀ k, k < 9 → parseFieldDescriptor (TX0 k).2.2.1 = some (tyX0 k) := by decide +kernel
abbrev cX0_init : ByteArray := prog_2_method_1_code
def yX0_init : MethodName := ⟨RX0, "<init>", "()V"⟩
abbrev cX0_has : ByteArray := prog_2_method_2_code
def yX0_has : MethodName := ⟨RX0, "has", "(I)Z"⟩
abbrev cX0_nextOf : ByteArray := prog_2_method_3_code
def yX0_nextOf : MethodName := ⟨RX0, "nextOf", "(II)I"⟩
abbrev cX0_build : ByteArray := prog_2_method_4_code
def yX0_build : MethodName := ⟨RX0, "build", "(LTornStreams$Words;)V"⟩
abbrev cX0_addChildren : ByteArray := prog_2_method_5_code
def yX0_addChildren : MethodName := ⟨RX0, "addChildren", "(LTornStreams$Words;II)V"⟩
abbrev cX0_added : ByteArray := prog_2_method_6_code
def yX0_added : MethodName := ⟨RX0, "added", "(III)I"⟩
abbrev cX0_link : ByteArray := prog_2_method_7_code
def yX0_link : MethodName := ⟨RX0, "link", "(I)V"⟩
abbrev cX0_nextSet : ByteArray := prog_2_method_8_code
def yX0_nextSet : MethodName := ⟨RX0, "nextSet", "(JI)J"⟩
abbrev cX0_nextSetByAny : ByteArray := prog_2_method_9_code
def yX0_nextSetByAny : MethodName := ⟨RX0, "nextSetByAny", "(J)J"⟩
abbrev cX0_spread : ByteArray := prog_2_method_10_code
def yX0_spread : MethodName := ⟨RX0, "spread", "(JI)J"⟩
abbrev cX0_wordsOfSet : ByteArray := prog_2_method_11_code
def yX0_wordsOfSet : MethodName := ⟨RX0, "wordsOfSet", "(J)I"⟩
abbrev cX0_fewestLettersToWord : ByteArray := prog_2_method_12_code
def yX0_fewestLettersToWord : MethodName := ⟨RX0, "fewestLettersToWord", "(I)I"⟩
def RX1 : String := "TornStreams$Finds"
def TX1 : u_T := fun k => match k with
  | 0 => ("TornStreams$Finds", "sureCount", "I", false)
  | 1 => ("TornStreams$Finds", "doubtfulCount", "I", false)
  | 2 => ("TornStreams$Finds", "keys", "[I", true)
  | 3 => ("TornStreams$Finds", "words", "[I", true)
  | 4 => ("TornStreams$Finds", "firsts", "[I", true)
  | _ => ("TornStreams$Finds", "ends", "[I", true)
def tyX1 : Nat → FieldType := fun k => match k with
  | 0 => .int
  | 1 => .int
  | 2 => .array .int
  | 3 => .array .int
  | 4 => .array .int
  | _ => .array .int
abbrev wsX10 : List Cond := u_ws RX1 TX1 6
theorem nmX1 : ∀ a, a < 6 → ∀ b, b < 6 → a ≠ b → (TX1 a).2.1 ≠ (TX1 b).2.1 := by decide +kernel
theorem tyX1_ok : ∀ k, k < 6 → parseFieldDescriptor (TX1 k).2.2.1 = some (tyX1 k) := by decide +kernel
abbrev cX1_init : ByteArray := prog_3_method_1_code
def yX1_init : MethodName := ⟨RX1, "<init>", "()V"⟩
abbrev cX1_copyFrom : ByteArray := prog_3_method_2_code
def yX1_copyFrom : MethodName := ⟨RX1, "copyFrom", "(LTornStreams$Finds;)V"⟩
abbrev cX1_made : ByteArray := prog_3_method_3_code
def yX1_made : MethodName := ⟨RX1, "made", "()I"⟩
abbrev cX1_remembered : ByteArray := prog_3_method_4_code
def yX1_remembered : MethodName := ⟨RX1, "remembered", "()I"⟩
abbrev cX1_add : ByteArray := prog_3_method_5_code
def yX1_add : MethodName := ⟨RX1, "add", "(IIII)V"⟩
abbrev cX1_tell : ByteArray := prog_3_method_6_code
def yX1_tell : MethodName := ⟨RX1, "tell", "(II)I"⟩
def RX2 : String := "TornStreams$Flow"
def TX2 : u_T := fun k => match k with
  | 0 => ("TornStreams$Flow", "key", "I", false)
  | 1 => ("TornStreams$Flow", "policy", "I", false)
  | 2 => ("TornStreams$Flow", "bound", "I", false)
  | 3 => ("TornStreams$Flow", "offset", "I", false)
  | 4 => ("TornStreams$Flow", "pieces", "LTornStreams$Segments;", true)
  | 5 => ("TornStreams$Flow", "log", "LTornStreams$Segments;", true)
  | 6 => ("TornStreams$Flow", "reader", "LTornStreams$Reader;", true)
  | 7 => ("TornStreams$Flow", "segmentCount", "I", false)
  | 8 => ("TornStreams$Flow", "oldCount", "I", false)
  | 9 => ("TornStreams$Flow", "conflictCount", "I", false)
  | 10 => ("TornStreams$Flow", "gapCount", "I", false)
  | _ => ("TornStreams$Flow", "gapBytes", "I", false)
def tyX2 : Nat → FieldType := fun k => match k with
  | 0 => .int
  | 1 => .int
  | 2 => .int
  | 3 => .int
  | 4 => .object "TornStreams$Segments"
  | 5 => .object "TornStreams$Segments"
  | 6 => .object "TornStreams$Reader"
  | 7 => .int
  | 8 => .int
  | 9 => .int
  | 10 => .int
  | _ => .int
abbrev wsX20 : List Cond := u_ws RX2 TX2 12
theorem nmX2 : ∀ a, a < 12 → ∀ b, b < 12 → a ≠ b → (TX2 a).2.1 ≠ (TX2 b).2.1 := by decide +kernel
theorem tyX2_ok : ∀ k, k < 12 → parseFieldDescriptor (TX2 k).2.2.1 = some (tyX2 k) := by decide +kernel
abbrev cX2_init : ByteArray := prog_4_method_1_code
def yX2_init : MethodName := ⟨RX2, "<init>", "(LTornStreams$Automaton;LTornStreams$Finds;)V"⟩
abbrev cX2_begin : ByteArray := prog_4_method_2_code
def yX2_begin : MethodName := ⟨RX2, "begin", "(IIII)V"⟩
abbrev cX2_copyFrom : ByteArray := prog_4_method_3_code
def yX2_copyFrom : MethodName := ⟨RX2, "copyFrom", "(LTornStreams$Flow;)V"⟩
abbrev cX2_accept : ByteArray := prog_4_method_4_code
def yX2_accept : MethodName := ⟨RX2, "accept", "([BIII)V"⟩
abbrev cX2_end : ByteArray := prog_4_method_5_code
def yX2_end : MethodName := ⟨RX2, "end", "()V"⟩
abbrev cX2_deliver : ByteArray := prog_4_method_6_code
def yX2_deliver : MethodName := ⟨RX2, "deliver", "()V"⟩
abbrev cX2_skipGap : ByteArray := prog_4_method_7_code
def yX2_skipGap : MethodName := ⟨RX2, "skipGap", "()V"⟩
abbrev cX2_isDisputed : ByteArray := prog_4_method_8_code
def yX2_isDisputed : MethodName := ⟨RX2, "isDisputed", "(II)Z"⟩
abbrev cX2_chosenPiece : ByteArray := prog_4_method_9_code
def yX2_chosenPiece : MethodName := ⟨RX2, "chosenPiece", "(I)I"⟩
abbrev cX2_isPreferred : ByteArray := prog_4_method_10_code
def yX2_isPreferred : MethodName := ⟨RX2, "isPreferred", "(II)Z"⟩
abbrev cX2_chosenByte : ByteArray := prog_4_method_11_code
def yX2_chosenByte : MethodName := ⟨RX2, "chosenByte", "(I)I"⟩
abbrev cX2_tell : ByteArray := prog_4_method_12_code
def yX2_tell : MethodName := ⟨RX2, "tell", "(I)I"⟩
def RX3 : String := "TornStreams$Reader"
def TX3 : u_T := fun k => match k with
  | 0 => ("TornStreams$Reader", "automaton", "LTornStreams$Automaton;", true)
  | 1 => ("TornStreams$Reader", "finds", "LTornStreams$Finds;", true)
  | 2 => ("TornStreams$Reader", "key", "I", false)
  | 3 => ("TornStreams$Reader", "flags", "I", false)
  | 4 => ("TornStreams$Reader", "heldCount", "I", false)
  | 5 => ("TornStreams$Reader", "heldDigit", "I", false)
  | 6 => ("TornStreams$Reader", "isBehindBlank", "Z", false)
  | 7 => ("TornStreams$Reader", "node", "I", false)
  | 8 => ("TornStreams$Reader", "possible", "J", false)
  | 9 => ("TornStreams$Reader", "characters", "[I", true)
  | 10 => ("TornStreams$Reader", "firstIndices", "[I", true)
  | 11 => ("TornStreams$Reader", "readCount", "I", false)
  | 12 => ("TornStreams$Reader", "sureCount", "I", false)
  | 13 => ("TornStreams$Reader", "doubtfulCount", "I", false)
  | _ => ("TornStreams$Reader", "found", "I", false)
def tyX3 : Nat → FieldType := fun k => match k with
  | 0 => .object "TornStreams$Automaton"
  | 1 => .object "TornStreams$Finds"
  | 2 => .int
  | 3 => .int
  | 4 => .int
  | 5 => .int
  | 6 => .boolean
  | 7 => .int
  | 8 => .long
  | 9 => .array .int
  | 10 => .array .int
  | 11 => .int
  | 12 => .int
  | 13 => .int
  | _ => .int
abbrev wsX30 : List Cond := u_ws RX3 TX3 15
theorem nmX3 : ∀ a, a < 15 → ∀ b, b < 15 → a ≠ b → (TX3 a).2.1 ≠ (TX3 b).2.1 := by decide +kernel
theorem tyX3_ok : ∀ k, k < 15 → parseFieldDescriptor (TX3 k).2.2.1 = some (tyX3 k) := by decide +kernel
abbrev cX3_init : ByteArray := prog_5_method_1_code
def yX3_init : MethodName := ⟨RX3, "<init>", "(LTornStreams$Automaton;LTornStreams$Finds;)V"⟩
abbrev cX3_begin : ByteArray := prog_5_method_2_code
def yX3_begin : MethodName := ⟨RX3, "begin", "(II)V"⟩
abbrev cX3_restart : ByteArray := prog_5_method_3_code
def yX3_restart : MethodName := ⟨RX3, "restart", "()V"⟩
abbrev cX3_copyFrom : ByteArray := prog_5_method_4_code
def yX3_copyFrom : MethodName := ⟨RX3, "copyFrom", "(LTornStreams$Reader;)V"⟩
abbrev cX3_take : ByteArray := prog_5_method_5_code
def yX3_take : MethodName := ⟨RX3, "take", "(II)V"⟩
abbrev cX3_release : ByteArray := prog_5_method_6_code
def yX3_release : MethodName := ⟨RX3, "release", "(I)V"⟩
abbrev cX3_skip : ByteArray := prog_5_method_7_code
def yX3_skip : MethodName := ⟨RX3, "skip", "(II)V"⟩
abbrev cX3_come : ByteArray := prog_5_method_8_code
def yX3_come : MethodName := ⟨RX3, "come", "(III)V"⟩
abbrev cX3_isDropped : ByteArray := prog_5_method_9_code
def yX3_isDropped : MethodName := ⟨RX3, "isDropped", "(I)Z"⟩
abbrev cX3_firstIndexOf : ByteArray := prog_5_method_10_code
def yX3_firstIndexOf : MethodName := ⟨RX3, "firstIndexOf", "(I)I"⟩
abbrev cX3_recentCharacter : ByteArray := prog_5_method_11_code
def yX3_recentCharacter : MethodName := ⟨RX3, "recentCharacter", "(I)I"⟩
abbrev cX3_hexadecimal : ByteArray := prog_5_method_12_code
def yX3_hexadecimal : MethodName := ⟨RX3, "hexadecimal", "(I)I"⟩
def RX4 : String := "TornStreams$Segments"
def TX4 : u_T := fun k => match k with
  | 0 => ("TornStreams$Segments", "count", "I", false)
  | 1 => ("TornStreams$Segments", "starts", "[I", true)
  | 2 => ("TornStreams$Segments", "lengths", "[I", true)
  | _ => ("TornStreams$Segments", "bytes", "[B", true)
def tyX4 : Nat → FieldType := fun k => match k with
  | 0 => .int
  | 1 => .array .int
  | 2 => .array .int
  | _ => .array .byte
abbrev wsX40 : List Cond := u_ws RX4 TX4 4
theorem nmX4 : ∀ a, a < 4 → ∀ b, b < 4 → a ≠ b → (TX4 a).2.1 ≠ (TX4 b).2.1 := by decide +kernel
theorem tyX4_ok : ∀ k, k < 4 → parseFieldDescriptor (TX4 k).2.2.1 = some (tyX4 k) := by decide +kernel
abbrev cX4_init : ByteArray := prog_6_method_1_code
def yX4_init : MethodName := ⟨RX4, "<init>", "(I)V"⟩
abbrev cX4_copyFrom : ByteArray := prog_6_method_2_code
def yX4_copyFrom : MethodName := ⟨RX4, "copyFrom", "(LTornStreams$Segments;)V"⟩
abbrev cX4_isFull : ByteArray := prog_6_method_3_code
def yX4_isFull : MethodName := ⟨RX4, "isFull", "()Z"⟩
abbrev cX4_add : ByteArray := prog_6_method_4_code
def yX4_add : MethodName := ⟨RX4, "add", "([BIII)V"⟩
abbrev cX4_put : ByteArray := prog_6_method_5_code
def yX4_put : MethodName := ⟨RX4, "put", "(I[BIII)V"⟩
abbrev cX4_covers : ByteArray := prog_6_method_6_code
def yX4_covers : MethodName := ⟨RX4, "covers", "(II)Z"⟩
abbrev cX4_byteFor : ByteArray := prog_6_method_7_code
def yX4_byteFor : MethodName := ⟨RX4, "byteFor", "(II)I"⟩
abbrev cX4_dropBefore : ByteArray := prog_6_method_8_code
def yX4_dropBefore : MethodName := ⟨RX4, "dropBefore", "(I)V"⟩
abbrev cX4_coveredFrom : ByteArray := prog_6_method_9_code
def yX4_coveredFrom : MethodName := ⟨RX4, "coveredFrom", "(I)I"⟩
abbrev cX4_isCoveredBefore : ByteArray := prog_6_method_10_code
def yX4_isCoveredBefore : MethodName := ⟨RX4, "isCoveredBefore", "(II)Z"⟩
abbrev cX4_smallestStart : ByteArray := prog_6_method_11_code
def yX4_smallestStart : MethodName := ⟨RX4, "smallestStart", "()I"⟩
def RX5 : String := "TornStreams$State"
def TX5 : u_T := fun k => match k with
  | 0 => ("TornStreams$State", "words", "LTornStreams$Words;", true)
  | 1 => ("TornStreams$State", "settings", "[I", true)
  | 2 => ("TornStreams$State", "finds", "LTornStreams$Finds;", true)
  | 3 => ("TornStreams$State", "flows", "[LTornStreams$Flow;", true)
  | 4 => ("TornStreams$State", "flowCount", "I", false)
  | _ => ("TornStreams$State", "forgottenCount", "I", false)
def tyX5 : Nat → FieldType := fun k => match k with
  | 0 => .object "TornStreams$Words"
  | 1 => .array .int
  | 2 => .object "TornStreams$Finds"
  | 3 => .array (.object "TornStreams$Flow")
  | 4 => .int
  | _ => .int
abbrev wsX50 : List Cond := u_ws RX5 TX5 6
theorem nmX5 : ∀ a, a < 6 → ∀ b, b < 6 → a ≠ b → (TX5 a).2.1 ≠ (TX5 b).2.1 := by decide +kernel
theorem tyX5_ok : ∀ k, k < 6 → parseFieldDescriptor (TX5 k).2.2.1 = some (tyX5 k) := by decide +kernel
abbrev cX5_init : ByteArray := prog_7_method_1_code
def yX5_init : MethodName := ⟨RX5, "<init>", "(LTornStreams$Automaton;LTornStreams$Finds;)V"⟩
abbrev cX5_copyFrom : ByteArray := prog_7_method_2_code
def yX5_copyFrom : MethodName := ⟨RX5, "copyFrom", "(LTornStreams$State;)V"⟩
abbrev cX5_placeOf : ByteArray := prog_7_method_3_code
def yX5_placeOf : MethodName := ⟨RX5, "placeOf", "(I)I"⟩
abbrev cX5_flowOfSegment : ByteArray := prog_7_method_4_code
def yX5_flowOfSegment : MethodName := ⟨RX5, "flowOfSegment", "(I)LTornStreams$Flow;"⟩
abbrev cX5_remove : ByteArray := prog_7_method_5_code
def yX5_remove : MethodName := ⟨RX5, "remove", "(I)V"⟩
abbrev cX5_movedToEnd : ByteArray := prog_7_method_6_code
def yX5_movedToEnd : MethodName := ⟨RX5, "movedToEnd", "(I)LTornStreams$Flow;"⟩
def RX6 : String := "TornStreams$Words"
def TX6 : u_T := fun k => match k with
  | 0 => ("TornStreams$Words", "lengths", "[I", true)
  | _ => ("TornStreams$Words", "letters", "[B", true)
def tyX6 : Nat → FieldType := fun k => match k with
  | 0 => .array .int
  | _ => .array .byte
abbrev wsX60 : List Cond := u_ws RX6 TX6 2
theorem nmX6 : ∀ a, a < 2 → ∀ b, b < 2 → a ≠ b → (TX6 a).2.1 ≠ (TX6 b).2.1 := by decide +kernel
theorem tyX6_ok : ∀ k, k < 2 → parseFieldDescriptor (TX6 k).2.2.1 = some (tyX6 k) := by decide +kernel
abbrev cX6_init : ByteArray := prog_8_method_1_code
def yX6_init : MethodName := ⟨RX6, "<init>", "()V"⟩
abbrev cX6_copyFrom : ByteArray := prog_8_method_2_code
def yX6_copyFrom : MethodName := ⟨RX6, "copyFrom", "(LTornStreams$Words;)V"⟩
abbrev cX6_isDefined : ByteArray := prog_8_method_3_code
def yX6_isDefined : MethodName := ⟨RX6, "isDefined", "(I)Z"⟩
abbrev cX6_put : ByteArray := prog_8_method_4_code
def yX6_put : MethodName := ⟨RX6, "put", "(I[BI)V"⟩
abbrev cX6_remove : ByteArray := prog_8_method_5_code
def yX6_remove : MethodName := ⟨RX6, "remove", "(I)V"⟩
abbrev cX6_letterAt : ByteArray := prog_8_method_6_code
def yX6_letterAt : MethodName := ⟨RX6, "letterAt", "(II)I"⟩
abbrev cX6_definedSet : ByteArray := prog_8_method_7_code
def yX6_definedSet : MethodName := ⟨RX6, "definedSet", "()I"⟩
def RX7 : String := "TornStreams"
def TX7 : u_T := fun k => match k with
  | 0 => ("TornStreams", "text", "[B", true)
  | 1 => ("TornStreams", "textLength", "I", false)
  | 2 => ("TornStreams", "automaton", "LTornStreams$Automaton;", true)
  | 3 => ("TornStreams", "now", "LTornStreams$State;", false)
  | 4 => ("TornStreams", "trial", "LTornStreams$State;", true)
  | 5 => ("TornStreams", "rehearsal", "LTornStreams$Flow;", true)
  | 6 => ("TornStreams", "past", "[LTornStreams$State;", true)
  | _ => ("TornStreams", "pastCount", "I", false)
def tyX7 : Nat → FieldType := fun k => match k with
  | 0 => .array .byte
  | 1 => .int
  | 2 => .object "TornStreams$Automaton"
  | 3 => .object "TornStreams$State"
  | 4 => .object "TornStreams$State"
  | 5 => .object "TornStreams$Flow"
  | 6 => .array (.object "TornStreams$State")
  | _ => .int
abbrev wsX70 : List Cond := u_ws RX7 TX7 8
theorem nmX7 : ∀ a, a < 8 → ∀ b, b < 8 → a ≠ b → (TX7 a).2.1 ≠ (TX7 b).2.1 := by decide +kernel
theorem tyX7_ok : ∀ k, k < 8 → parseFieldDescriptor (TX7 k).2.2.1 = some (tyX7 k) := by decide +kernel
abbrev cX7_init : ByteArray := prog_1_method_1_code
def yX7_init : MethodName := ⟨RX7, "<init>", "()V"⟩
abbrev cX7_type : ByteArray := prog_1_method_2_code
def yX7_type : MethodName := ⟨RX7, "type", "(I)I"⟩
abbrev cX7_clear : ByteArray := prog_1_method_3_code
def yX7_clear : MethodName := ⟨RX7, "clear", "()I"⟩
abbrev cX7_define : ByteArray := prog_1_method_4_code
def yX7_define : MethodName := ⟨RX7, "define", "(I)I"⟩
abbrev cX7_forget : ByteArray := prog_1_method_5_code
def yX7_forget : MethodName := ⟨RX7, "forget", "(I)I"⟩
abbrev cX7_letter : ByteArray := prog_1_method_6_code
def yX7_letter : MethodName := ⟨RX7, "letter", "(II)I"⟩
abbrev cX7_node : ByteArray := prog_1_method_7_code
def yX7_node : MethodName := ⟨RX7, "node", "(II)I"⟩
abbrev cX7_next : ByteArray := prog_1_method_8_code
def yX7_next : MethodName := ⟨RX7, "next", "(II)I"⟩
abbrev cX7_set : ByteArray := prog_1_method_9_code
def yX7_set : MethodName := ⟨RX7, "set", "(II)I"⟩
abbrev cX7_segment : ByteArray := prog_1_method_10_code
def yX7_segment : MethodName := ⟨RX7, "segment", "(II)I"⟩
abbrev cX7_finish : ByteArray := prog_1_method_11_code
def yX7_finish : MethodName := ⟨RX7, "finish", "(I)I"⟩
abbrev cX7_flow : ByteArray := prog_1_method_12_code
def yX7_flow : MethodName := ⟨RX7, "flow", "(I)I"⟩
abbrev cX7_property : ByteArray := prog_1_method_13_code
def yX7_property : MethodName := ⟨RX7, "property", "(II)I"⟩
abbrev cX7_byteAt : ByteArray := prog_1_method_14_code
def yX7_byteAt : MethodName := ⟨RX7, "byteAt", "(II)I"⟩
abbrev cX7_possible : ByteArray := prog_1_method_15_code
def yX7_possible : MethodName := ⟨RX7, "possible", "(I)J"⟩
abbrev cX7_read : ByteArray := prog_1_method_16_code
def yX7_read : MethodName := ⟨RX7, "read", "(II)I"⟩
abbrev cX7_find : ByteArray := prog_1_method_17_code
def yX7_find : MethodName := ⟨RX7, "find", "(II)I"⟩
abbrev cX7_told : ByteArray := prog_1_method_18_code
def yX7_told : MethodName := ⟨RX7, "told", "(I)I"⟩
abbrev cX7_ifSegment : ByteArray := prog_1_method_19_code
def yX7_ifSegment : MethodName := ⟨RX7, "ifSegment", "(II)I"⟩
abbrev cX7_replay : ByteArray := prog_1_method_20_code
def yX7_replay : MethodName := ⟨RX7, "replay", "(II)I"⟩
abbrev cX7_evasions : ByteArray := prog_1_method_21_code
def yX7_evasions : MethodName := ⟨RX7, "evasions", "(I)I"⟩
abbrev cX7_nearest : ByteArray := prog_1_method_22_code
def yX7_nearest : MethodName := ⟨RX7, "nearest", "(I)I"⟩
abbrev cX7_undo : ByteArray := prog_1_method_23_code
def yX7_undo : MethodName := ⟨RX7, "undo", "()I"⟩
abbrev cX7_digest : ByteArray := prog_1_method_24_code
def yX7_digest : MethodName := ⟨RX7, "digest", "()J"⟩
abbrev cX7_mixedWithFlow : ByteArray := prog_1_method_25_code
def yX7_mixedWithFlow : MethodName := ⟨RX7, "mixedWithFlow", "(JLTornStreams$Flow;)J"⟩
abbrev cX7_mixed : ByteArray := prog_1_method_26_code
def yX7_mixed : MethodName := ⟨RX7, "mixed", "(JJ)J"⟩
abbrev cX7_isWord : ByteArray := prog_1_method_27_code
def yX7_isWord : MethodName := ⟨RX7, "isWord", "(I)Z"⟩
abbrev cX7_isKey : ByteArray := prog_1_method_28_code
def yX7_isKey : MethodName := ⟨RX7, "isKey", "(I)Z"⟩
abbrev cX7_firstWrongByte : ByteArray := prog_1_method_29_code
def yX7_firstWrongByte : MethodName := ⟨RX7, "firstWrongByte", "()I"⟩
abbrev cX7_isLetter : ByteArray := prog_1_method_30_code
def yX7_isLetter : MethodName := ⟨RX7, "isLetter", "(I)Z"⟩
abbrev cX7_wordsChanged : ByteArray := prog_1_method_31_code
def yX7_wordsChanged : MethodName := ⟨RX7, "wordsChanged", "()V"⟩
abbrev cX7_segmentError : ByteArray := prog_1_method_32_code
def yX7_segmentError : MethodName := ⟨RX7, "segmentError", "(II)I"⟩
abbrev cX7_handled : ByteArray := prog_1_method_33_code
def yX7_handled : MethodName := ⟨RX7, "handled", "(LTornStreams$State;II)I"⟩
abbrev cX7_wordsBy : ByteArray := prog_1_method_34_code
def yX7_wordsBy : MethodName := ⟨RX7, "wordsBy", "(LTornStreams$Flow;I)I"⟩
abbrev cX7_record : ByteArray := prog_1_method_35_code
def yX7_record : MethodName := ⟨RX7, "record", "()V"⟩
abbrev cX7_dropOldest : ByteArray := prog_1_method_36_code
def yX7_dropOldest : MethodName := ⟨RX7, "dropOldest", "()V"⟩
def RX8 : String := "TornStreamsModel"
def TX8 : u_T := fun k => match k with
  | 0 => ("TornStreamsModel", "page", "[I", true)
  | 1 => ("TornStreamsModel", "remembered", "I", false)
  | 2 => ("TornStreamsModel", "text", "[I", true)
  | 3 => ("TornStreamsModel", "typed", "I", false)
  | 4 => ("TornStreamsModel", "nodes", "I", false)
  | 5 => ("TornStreamsModel", "lengths", "[I", true)
  | 6 => ("TornStreamsModel", "letters", "[I", true)
  | 7 => ("TornStreamsModel", "parents", "[I", true)
  | 8 => ("TornStreamsModel", "fails", "[I", true)
  | 9 => ("TornStreamsModel", "sets", "[I", true)
  | 10 => ("TornStreamsModel", "nexts", "[I", true)
  | 11 => ("TornStreamsModel", "row", "[I", true)
  | 12 => ("TornStreamsModel", "flow", "I", false)
  | 13 => ("TornStreamsModel", "made", "I", false)
  | 14 => ("TornStreamsModel", "foundWords", "I", false)
  | 15 => ("TornStreamsModel", "far", "[I", true)
  | _ => ("TornStreamsModel", "line", "[I", true)
def tyX8 : Nat → FieldType := fun k => match k with
  | 0 => .array .int
  | 1 => .int
  | 2 => .array .int
  | 3 => .int
  | 4 => .int
  | 5 => .array .int
  | 6 => .array .int
  | 7 => .array .int
  | 8 => .array .int
  | 9 => .array .int
  | 10 => .array .int
  | 11 => .array .int
  | 12 => .int
  | 13 => .int
  | 14 => .int
  | 15 => .array .int
  | _ => .array .int
abbrev wsX80 : List Cond := u_ws RX8 TX8 17
theorem nmX8 : ∀ a, a < 17 → ∀ b, b < 17 → a ≠ b → (TX8 a).2.1 ≠ (TX8 b).2.1 := by decide +kernel
theorem tyX8_ok : ∀ k, k < 17 → parseFieldDescriptor (TX8 k).2.2.1 = some (tyX8 k) := by decide +kernel
abbrev cX8_init : ByteArray := prog_10_method_1_code
def yX8_init : MethodName := ⟨RX8, "<init>", "()V"⟩
abbrev cX8_in : ByteArray := prog_10_method_3_code
def yX8_in : MethodName := ⟨RX8, "in", "(III)Z"⟩
abbrev cX8_copies : ByteArray := prog_10_method_4_code
def yX8_copies : MethodName := ⟨RX8, "copies", "(II)V"⟩
abbrev cX8_begins : ByteArray := prog_10_method_5_code
def yX8_begins : MethodName := ⟨RX8, "begins", "()V"⟩
abbrev cX8_wordLength : ByteArray := prog_10_method_6_code
def yX8_wordLength : MethodName := ⟨RX8, "wordLength", "(I)I"⟩
abbrev cX8_letterOf : ByteArray := prog_10_method_7_code
def yX8_letterOf : MethodName := ⟨RX8, "letterOf", "(II)I"⟩
abbrev cX8_order : ByteArray := prog_10_method_8_code
def yX8_order : MethodName := ⟨RX8, "order", "(II)I"⟩
abbrev cX8_nodeOf : ByteArray := prog_10_method_9_code
def yX8_nodeOf : MethodName := ⟨RX8, "nodeOf", "(II)I"⟩
abbrev cX8_inserts : ByteArray := prog_10_method_10_code
def yX8_inserts : MethodName := ⟨RX8, "inserts", "(I)V"⟩
abbrev cX8_longest : ByteArray := prog_10_method_11_code
def yX8_longest : MethodName := ⟨RX8, "longest", "(II)I"⟩
abbrev cX8_takes : ByteArray := prog_10_method_12_code
def yX8_takes : MethodName := ⟨RX8, "takes", "(I)V"⟩
abbrev cX8_endsWith : ByteArray := prog_10_method_13_code
def yX8_endsWith : MethodName := ⟨RX8, "endsWith", "(II)Z"⟩
abbrev cX8_lays : ByteArray := prog_10_method_14_code
def yX8_lays : MethodName := ⟨RX8, "lays", "()V"⟩
abbrev cX8_type : ByteArray := prog_10_method_15_code
def yX8_type : MethodName := ⟨RX8, "type", "(I)I"⟩
abbrev cX8_clear : ByteArray := prog_10_method_16_code
def yX8_clear : MethodName := ⟨RX8, "clear", "()I"⟩
abbrev cX8_isWord : ByteArray := prog_10_method_17_code
def yX8_isWord : MethodName := ⟨RX8, "isWord", "(I)Z"⟩
abbrev cX8_faultOf : ByteArray := prog_10_method_18_code
def yX8_faultOf : MethodName := ⟨RX8, "faultOf", "()I"⟩
abbrev cX8_slot : ByteArray := prog_10_method_19_code
def yX8_slot : MethodName := ⟨RX8, "slot", "(I)I"⟩
abbrev cX8_others : ByteArray := prog_10_method_20_code
def yX8_others : MethodName := ⟨RX8, "others", "()I"⟩
abbrev cX8_define : ByteArray := prog_10_method_21_code
def yX8_define : MethodName := ⟨RX8, "define", "(I)I"⟩
abbrev cX8_forget : ByteArray := prog_10_method_22_code
def yX8_forget : MethodName := ⟨RX8, "forget", "(I)I"⟩
abbrev cX8_letter : ByteArray := prog_10_method_23_code
def yX8_letter : MethodName := ⟨RX8, "letter", "(II)I"⟩
abbrev cX8_node : ByteArray := prog_10_method_24_code
def yX8_node : MethodName := ⟨RX8, "node", "(II)I"⟩
abbrev cX8_next : ByteArray := prog_10_method_25_code
def yX8_next : MethodName := ⟨RX8, "next", "(II)I"⟩
abbrev cX8_set : ByteArray := prog_10_method_26_code
def yX8_set : MethodName := ⟨RX8, "set", "(II)I"⟩
abbrev cX8_of : ByteArray := prog_10_method_27_code
def yX8_of : MethodName := ⟨RX8, "of", "(I)I"⟩
abbrev cX8_put : ByteArray := prog_10_method_28_code
def yX8_put : MethodName := ⟨RX8, "put", "(II)V"⟩
abbrev cX8_adds : ByteArray := prog_10_method_29_code
def yX8_adds : MethodName := ⟨RX8, "adds", "(II)V"⟩
abbrev cX8_isPossible : ByteArray := prog_10_method_30_code
def yX8_isPossible : MethodName := ⟨RX8, "isPossible", "(I)Z"⟩
abbrev cX8_laysPossible : ByteArray := prog_10_method_31_code
def yX8_laysPossible : MethodName := ⟨RX8, "laysPossible", "(II)V"⟩
abbrev cX8_lowOf : ByteArray := prog_10_method_32_code
def yX8_lowOf : MethodName := ⟨RX8, "lowOf", "(I)I"⟩
abbrev cX8_highOf : ByteArray := prog_10_method_33_code
def yX8_highOf : MethodName := ⟨RX8, "highOf", "(I)I"⟩
abbrev cX8_records : ByteArray := prog_10_method_34_code
def yX8_records : MethodName := ⟨RX8, "records", "(III)V"⟩
abbrev cX8_steps : ByteArray := prog_10_method_35_code
def yX8_steps : MethodName := ⟨RX8, "steps", "(I)V"⟩
abbrev cX8_reads : ByteArray := prog_10_method_36_code
def yX8_reads : MethodName := ⟨RX8, "reads", "(III)V"⟩
abbrev cX8_has : ByteArray := prog_10_method_37_code
def yX8_has : MethodName := ⟨RX8, "has", "(I)Z"⟩
abbrev cX8_character : ByteArray := prog_10_method_38_code
def yX8_character : MethodName := ⟨RX8, "character", "(III)V"⟩
abbrev cX8_hexOf : ByteArray := prog_10_method_39_code
def yX8_hexOf : MethodName := ⟨RX8, "hexOf", "(I)I"⟩
abbrev cX8_lets : ByteArray := prog_10_method_40_code
def yX8_lets : MethodName := ⟨RX8, "lets", "()V"⟩
abbrev cX8_delivers : ByteArray := prog_10_method_41_code
def yX8_delivers : MethodName := ⟨RX8, "delivers", "(II)V"⟩
abbrev cX8_pieceAt : ByteArray := prog_10_method_42_code
def yX8_pieceAt : MethodName := ⟨RX8, "pieceAt", "(I)I"⟩
abbrev cX8_covers : ByteArray := prog_10_method_43_code
def yX8_covers : MethodName := ⟨RX8, "covers", "(II)Z"⟩
abbrev cX8_byteOf : ByteArray := prog_10_method_44_code
def yX8_byteOf : MethodName := ⟨RX8, "byteOf", "(II)I"⟩
abbrev cX8_isBetter : ByteArray := prog_10_method_45_code
def yX8_isBetter : MethodName := ⟨RX8, "isBetter", "(II)Z"⟩
abbrev cX8_chosen : ByteArray := prog_10_method_46_code
def yX8_chosen : MethodName := ⟨RX8, "chosen", "(I)I"⟩
abbrev cX8_isConflict : ByteArray := prog_10_method_47_code
def yX8_isConflict : MethodName := ⟨RX8, "isConflict", "(I)Z"⟩
abbrev cX8_drops : ByteArray := prog_10_method_48_code
def yX8_drops : MethodName := ⟨RX8, "drops", "()V"⟩
abbrev cX8_deliversAll : ByteArray := prog_10_method_49_code
def yX8_deliversAll : MethodName := ⟨RX8, "deliversAll", "()V"⟩
abbrev cX8_covered : ByteArray := prog_10_method_50_code
def yX8_covered : MethodName := ⟨RX8, "covered", "(Z)I"⟩
abbrev cX8_gap : ByteArray := prog_10_method_51_code
def yX8_gap : MethodName := ⟨RX8, "gap", "(I)V"⟩
abbrev cX8_handles : ByteArray := prog_10_method_52_code
def yX8_handles : MethodName := ⟨RX8, "handles", "(III)V"⟩
abbrev cX8_starts : ByteArray := prog_10_method_53_code
def yX8_starts : MethodName := ⟨RX8, "starts", "(IIII)V"⟩
abbrev cX8_placeOf : ByteArray := prog_10_method_54_code
def yX8_placeOf : MethodName := ⟨RX8, "placeOf", "(I)I"⟩
abbrev cX8_freeSlot : ByteArray := prog_10_method_55_code
def yX8_freeSlot : MethodName := ⟨RX8, "freeSlot", "()I"⟩
abbrev cX8_leaves : ByteArray := prog_10_method_56_code
def yX8_leaves : MethodName := ⟨RX8, "leaves", "(I)V"⟩
abbrev cX8_segments : ByteArray := prog_10_method_57_code
def yX8_segments : MethodName := ⟨RX8, "segments", "(II)V"⟩
abbrev cX8_handlesText : ByteArray := prog_10_method_58_code
def yX8_handlesText : MethodName := ⟨RX8, "handlesText", "(I)V"⟩
abbrev cX8_wrong : ByteArray := prog_10_method_59_code
def yX8_wrong : MethodName := ⟨RX8, "wrong", "(II)I"⟩
abbrev cX8_segment : ByteArray := prog_10_method_60_code
def yX8_segment : MethodName := ⟨RX8, "segment", "(II)I"⟩
abbrev cX8_asked : ByteArray := prog_10_method_61_code
def yX8_asked : MethodName := ⟨RX8, "asked", "(I)I"⟩
abbrev cX8_finish : ByteArray := prog_10_method_62_code
def yX8_finish : MethodName := ⟨RX8, "finish", "(I)I"⟩
abbrev cX8_flow : ByteArray := prog_10_method_63_code
def yX8_flow : MethodName := ⟨RX8, "flow", "(I)I"⟩
abbrev cX8_possibleMany : ByteArray := prog_10_method_64_code
def yX8_possibleMany : MethodName := ⟨RX8, "possibleMany", "()I"⟩
abbrev cX8_propertyNow : ByteArray := prog_10_method_65_code
def yX8_propertyNow : MethodName := ⟨RX8, "propertyNow", "(I)I"⟩
abbrev cX8_property : ByteArray := prog_10_method_66_code
def yX8_property : MethodName := ⟨RX8, "property", "(II)I"⟩
abbrev cX8_byteNow : ByteArray := prog_10_method_67_code
def yX8_byteNow : MethodName := ⟨RX8, "byteNow", "(I)I"⟩
abbrev cX8_byteAt : ByteArray := prog_10_method_68_code
def yX8_byteAt : MethodName := ⟨RX8, "byteAt", "(II)I"⟩
abbrev cX8_possibleNow : ByteArray := prog_10_method_69_code
def yX8_possibleNow : MethodName := ⟨RX8, "possibleNow", "()J"⟩
abbrev cX8_possible : ByteArray := prog_10_method_70_code
def yX8_possible : MethodName := ⟨RX8, "possible", "(I)J"⟩
abbrev cX8_readNow : ByteArray := prog_10_method_71_code
def yX8_readNow : MethodName := ⟨RX8, "readNow", "(I)I"⟩
abbrev cX8_read : ByteArray := prog_10_method_72_code
def yX8_read : MethodName := ⟨RX8, "read", "(II)I"⟩
abbrev cX8_find : ByteArray := prog_10_method_73_code
def yX8_find : MethodName := ⟨RX8, "find", "(II)I"⟩
abbrev cX8_definedSet : ByteArray := prog_10_method_74_code
def yX8_definedSet : MethodName := ⟨RX8, "definedSet", "()I"⟩
abbrev cX8_told : ByteArray := prog_10_method_75_code
def yX8_told : MethodName := ⟨RX8, "told", "(I)I"⟩
abbrev cX8_ifSegment : ByteArray := prog_10_method_76_code
def yX8_ifSegment : MethodName := ⟨RX8, "ifSegment", "(II)I"⟩
abbrev cX8_replays : ByteArray := prog_10_method_77_code
def yX8_replays : MethodName := ⟨RX8, "replays", "(II)I"⟩
abbrev cX8_replay : ByteArray := prog_10_method_78_code
def yX8_replay : MethodName := ⟨RX8, "replay", "(II)I"⟩
abbrev cX8_evasions : ByteArray := prog_10_method_79_code
def yX8_evasions : MethodName := ⟨RX8, "evasions", "(I)I"⟩
abbrev cX8_nearest : ByteArray := prog_10_method_80_code
def yX8_nearest : MethodName := ⟨RX8, "nearest", "(I)I"⟩
abbrev cX8_undo : ByteArray := prog_10_method_81_code
def yX8_undo : MethodName := ⟨RX8, "undo", "()I"⟩
abbrev cX8_mixedFlow : ByteArray := prog_10_method_82_code
def yX8_mixedFlow : MethodName := ⟨RX8, "mixedFlow", "(JI)J"⟩
abbrev cX8_digest : ByteArray := prog_10_method_83_code
def yX8_digest : MethodName := ⟨RX8, "digest", "()J"⟩
def RJ6 : String := "java/lang/Integer"
def TJ6 : u_T := fun k => match k with
  | _ => ("", "", "", false)
def tyJ6 : Nat → FieldType := fun k => match k with
  | _ => .int
abbrev wsJ60 : List Cond := u_ws RJ6 TJ6 0
theorem nmJ6 : ∀ a, a < 0 → ∀ b, b < 0 → a ≠ b → (TJ6 a).2.1 ≠ (TJ6 b).2.1 := by decide +kernel
theorem tyJ6_ok : ∀ k, k < 0 → parseFieldDescriptor (TJ6 k).2.2.1 = some (tyJ6 k) := by decide +kernel
abbrev cJ6_bitCount_0f7a4 : ByteArray := prog_11_method_49_code
def yJ6_bitCount_0f7a4 : MethodName := ⟨RJ6, "bitCount", "(I)I"⟩
def RJ13 : String := "java/lang/Long"
def TJ13 : u_T := fun k => match k with
  | _ => ("", "", "", false)
def tyJ13 : Nat → FieldType := fun k => match k with
  | _ => .int
abbrev wsJ130 : List Cond := u_ws RJ13 TJ13 0
theorem nmJ13 : ∀ a, a < 0 → ∀ b, b < 0 → a ≠ b → (TJ13 a).2.1 ≠ (TJ13 b).2.1 := by decide +kernel
theorem tyJ13_ok : ∀ k, k < 0 → parseFieldDescriptor (TJ13 k).2.2.1 = some (tyJ13 k) := by decide +kernel
abbrev cJ13_bitCount_95d88 : ByteArray := prog_12_method_50_code
def yJ13_bitCount_95d88 : MethodName := ⟨RJ13, "bitCount", "(J)I"⟩
def RJ9 : String := "java/lang/Math"
def TJ9 : u_T := fun k => match k with
  | _ => ("", "", "", false)
def tyJ9 : Nat → FieldType := fun k => match k with
  | _ => .int
abbrev wsJ90 : List Cond := u_ws RJ9 TJ9 0
theorem nmJ9 : ∀ a, a < 0 → ∀ b, b < 0 → a ≠ b → (TJ9 a).2.1 ≠ (TJ9 b).2.1 := by decide +kernel
theorem tyJ9_ok : ∀ k, k < 0 → parseFieldDescriptor (TJ9 k).2.2.1 = some (tyJ9 k) := by decide +kernel
abbrev cJ9_max_7cf53 : ByteArray := prog_13_method_65_code
def yJ9_max_7cf53 : MethodName := ⟨RJ9, "max", "(II)I"⟩
abbrev cJ9_min_7cf53 : ByteArray := prog_13_method_69_code
def yJ9_min_7cf53 : MethodName := ⟨RJ9, "min", "(II)I"⟩
def RJ10 : String := "java/lang/System"
def TJ10 : u_T := fun k => match k with
  | _ => ("", "", "", false)
def tyJ10 : Nat → FieldType := fun k => match k with
  | _ => .int
abbrev wsJ100 : List Cond := u_ws RJ10 TJ10 0
theorem nmJ10 : ∀ a, a < 0 → ∀ b, b < 0 → a ≠ b → (TJ10 a).2.1 ≠ (TJ10 b).2.1 := by decide +kernel
theorem tyJ10_ok : ∀ k, k < 0 → parseFieldDescriptor (TJ10 k).2.2.1 = some (tyJ10 k) := by decide +kernel
def RJ7 : String := "java/util/Arrays"
def TJ7 : u_T := fun k => match k with
  | _ => ("", "", "", false)
def tyJ7 : Nat → FieldType := fun k => match k with
  | _ => .int
abbrev wsJ70 : List Cond := u_ws RJ7 TJ7 0
theorem nmJ7 : ∀ a, a < 0 → ∀ b, b < 0 → a ≠ b → (TJ7 a).2.1 ≠ (TJ7 b).2.1 := by decide +kernel
theorem tyJ7_ok : ∀ k, k < 0 → parseFieldDescriptor (TJ7 k).2.2.1 = some (tyJ7 k) := by decide +kernel
abbrev cJ7_fill_53178 : ByteArray := prog_15_method_103_code
def yJ7_fill_53178 : MethodName := ⟨RJ7, "fill", "([II)V"⟩
def RL : String := "TornStreamsLaw"
abbrev cL_law : ByteArray := code
def yL_law : MethodName := ⟨RL, "law", "([I)Z"⟩
abbrev vwCl : List vw_C := [(RX0, TX0, 9), (RX1, TX1, 6), (RX2, TX2, 12), (RX3, TX3, 15), (RX4, TX4, 4), (RX5, TX5, 6), (RX6, TX6, 2), (RX7, TX7, 8), (RX8, TX8, 17)]
end
section
/-! THE PLAIN MACHINE: a store, and what each instruction asks of it (a predicate transformer). A cell: an array (its type, length, contents) or an object (its class' number, its fields); an array marked .short is one of ints that is only read. -/
abbrev jx_E : Type := (FieldType × vp_A) ⊕ (Nat × List Value)
/-- where the next cell comes; the static references; the cells -/
abbrev jx_W : Type := Nat × (Nat → Nat) × (Nat → Option jx_E)
abbrev jx_L : Type := List (Nat × Value)
abbrev jx_Q : Type := jx_W → Option Value → Prop
abbrev jx_K : Type := jx_L → List Value → Nat → Nat → jx_W → Prop
abbrev jx_C : Type := Nat → List Value → jx_W → jx_Q → Prop
abbrev jx_J : Type := Nat → jx_K
abbrev jx_T : Type := jx_C → jx_J → jx_Q → jx_K → jx_K
/-- an instruction: its length, itself, what it is linked to -/
abbrev jx_I : Type := Nat × Instr × List Nat
def jx_up (w : jx_W) (a : Nat) (e : jx_E) : jx_W := (w.1, w.2.1, fun b => if b = a then some e else w.2.2 b)
def jx_al (w : jx_W) (e : jx_E) : jx_W := (w.1 + 1, w.2.1, fun b => if b = w.1 then some e else w.2.2 b)
def jx_ob (w : jx_W) (a ci : Nat) (fs : List Value) : Prop := w.2.2 a = some (.inr (ci, fs))
def jx_ia (w : jx_W) (a n : Nat) (f : Nat → Int32) : Prop := w.2.2 a = some (.inl (.int, n, .inl f))
def jx_ba (w : jx_W) (a n : Nat) (f : Nat → Int32) : Prop := w.2.2 a = some (.inl (.byte, n, .inl f))
def jx_ro (w : jx_W) (a n : Nat) (f : Nat → Int32) : Prop := w.2.2 a = some (.inl (.short, n, .inl f))
def jx_ra (w : jx_W) (a : Nat) (C : String) (n : Nat) (f : Nat → Option Nat) : Prop := w.2.2 a = some (.inl (.object C, n, .inr (.inr (.inr (.inr f)))))
def jx_uob (w : jx_W) (a ci : Nat) (fs : List Value) : jx_W := jx_up w a (.inr (ci, fs))
def jx_uia (w : jx_W) (a n : Nat) (f : Nat → Int32) : jx_W := jx_up w a (.inl (.int, n, .inl f))
def jx_uba (w : jx_W) (a n : Nat) (f : Nat → Int32) : jx_W := jx_up w a (.inl (.byte, n, .inl f))
def jx_ura (w : jx_W) (a : Nat) (C : String) (n : Nat) (f : Nat → Option Nat) : jx_W := jx_up w a (.inl (.object C, n, .inr (.inr (.inr (.inr f)))))
def jx_nm (ci : Nat) : String := match vwCl[ci]? with
  | some r => r.1
  | none => ""
def jx_get : jx_L → Nat → Option Value
  | [], _ => none
  | (j, v) :: t, i => match Nat.beq j i with
    | true => some v
    | false => jx_get t i
def jx_s1 (lv : jx_L) (i : Nat) (v : Value) : jx_L := (i, v) :: lv.filter (fun q => !(q.1 == i) && !(q.1 + 1 == i && q.2.category == 2))
def jx_s2 (lv : jx_L) (i : Nat) (v : Value) : jx_L := (i, v) :: lv.filter (fun q => !(q.1 == i) && (!(q.1 == i + 1) && !(q.1 + 1 == i && q.2.category == 2)))
/-- the locals that a block wants, in its order -/
def jx_pick : List Nat → jx_L → jx_L
  | [], _ => []
  | i :: t, lv => match jx_get lv i with
    | some v => (i, v) :: jx_pick t lv
    | none => jx_pick t lv
def jx_lit : List Nat → Int32
  | [0, n] => Int32.ofNat n
  | [1, n] => -(Int32.ofNat n)
  | _ => 0
def jt_bad : jx_T := fun _ _ _ _ _ _ _ _ _ => False
def jt_c (v : Value) : jx_T := fun _ _ _ k lv st bc bs w => k lv (v :: st) bc bs w
def jt_ldi (i : Nat) : jx_T := fun _ _ _ k lv st bc bs w => match jx_get lv i with
  | some (.int x) => k lv (.int x :: st) bc bs w
  | _ => False
def jt_ldl (i : Nat) : jx_T := fun _ _ _ k lv st bc bs w => match jx_get lv i with
  | some (.long x) => k lv (.long x :: st) bc bs w
  | _ => False
def jt_lda (i : Nat) : jx_T := fun _ _ _ k lv st bc bs w => match jx_get lv i with
  | some (.ref x) => k lv (.ref x :: st) bc bs w
  | _ => False
def jt_sti (i : Nat) : jx_T := fun _ _ _ k lv st bc bs w => match st with
  | .int x :: r => k (jx_s1 lv i (.int x)) r bc bs w
  | _ => False
def jt_stl (i : Nat) : jx_T := fun _ _ _ k lv st bc bs w => match st with
  | .long x :: r => k (jx_s2 lv i (.long x)) r bc bs w
  | _ => False
def jt_sta (i : Nat) : jx_T := fun _ _ _ k lv st bc bs w => match st with
  | .ref x :: r => k (jx_s1 lv i (.ref x)) r bc bs w
  | _ => False
def jt_inc (i : Nat) (v : Int32) : jx_T := fun _ _ _ k lv st bc bs w => match jx_get lv i with
  | some (.int x) => k (jx_s1 lv i (.int (x + v))) st bc bs w
  | _ => False
def jt_ii (f : Int32 → Int32 → Int32) : jx_T := fun _ _ _ k lv st bc bs w => match st with
  | .int y :: .int x :: r => k lv (.int (f x y) :: r) bc bs w
  | _ => False
def jt_irem : jx_T := fun _ _ _ k lv st bc bs w => match st with
  | .int y :: .int x :: r => ¬ y = 0 ∧ k lv (.int (x - x / y * y) :: r) bc bs w
  | _ => False
def jt_ll (f : Int64 → Int64 → Int64) : jx_T := fun _ _ _ k lv st bc bs w => match st with
  | .long y :: .long x :: r => k lv (.long (f x y) :: r) bc bs w
  | _ => False
def jt_li (f : Int64 → Int32 → Int64) : jx_T := fun _ _ _ k lv st bc bs w => match st with
  | .int y :: .long x :: r => k lv (.long (f x y) :: r) bc bs w
  | _ => False
def jt_lcmp : jx_T := fun _ _ _ k lv st bc bs w => match st with
  | .long y :: .long x :: r => k lv (.int (lg_cmp x y) :: r) bc bs w
  | _ => False
def jt_i2l : jx_T := fun _ _ _ k lv st bc bs w => match st with
  | .int x :: r => k lv (.long x.toInt64 :: r) bc bs w
  | _ => False
def jt_l2i : jx_T := fun _ _ _ k lv st bc bs w => match st with
  | .long x :: r => k lv (.int x.toInt32 :: r) bc bs w
  | _ => False
def jt_i2b : jx_T := fun _ _ _ k lv st bc bs w => match st with
  | .int x :: r => k lv (.int x.toInt8.toInt32 :: r) bc bs w
  | _ => False
def jt_dup : jx_T := fun _ _ _ k lv st bc bs w => match st with
  | .int x :: r => k lv (.int x :: .int x :: r) bc bs w
  | .ref x :: r => k lv (.ref x :: .ref x :: r) bc bs w
  | _ => False
def jt_dup2 : jx_T := fun _ _ _ k lv st bc bs w => match st with
  | .int y :: .ref x :: r => k lv (.int y :: .ref x :: .int y :: .ref x :: r) bc bs w
  | _ => False
def jt_pop : jx_T := fun _ _ _ k lv st bc bs w => match st with
  | .int _ :: r => k lv r bc bs w
  | .ref _ :: r => k lv r bc bs w
  | _ => False
def jt_if (f g : Int32 → Prop) (b : Nat) : jx_T := fun _ j _ k lv st bc bs w => match st with
  | .int x :: r => (f x → j b lv r bc bs w) ∧ (g x → k lv r bc bs w)
  | _ => False
def jt_cmp (f g : Int32 → Int32 → Prop) (b : Nat) : jx_T := fun _ j _ k lv st bc bs w => match st with
  | .int y :: .int x :: r => (f x y → j b lv r bc bs w) ∧ (g x y → k lv r bc bs w)
  | _ => False
def jt_go (b : Nat) : jx_T := fun _ j _ _ lv st bc bs w => j b lv st bc bs w
/-- a table of jumps from lo on, then the default's -/
def jx_sw (x : Int32) (lo : Int) (d : Nat) (jj : Nat → Prop) : List Nat → Int → Prop
  | [], n => (x.toInt < lo ∨ n ≤ x.toInt) → jj d
  | b :: t, n => (x.toInt = n → jj b) ∧ jx_sw x lo d jj t (n + 1)
def jt_sw (lo : Int) (d : Nat) (bs0 : List Nat) : jx_T := fun _ j _ _ lv st bc bs w => match st with
  | .int x :: r => jx_sw x lo d (fun b => j b lv r bc bs w) bs0 lo
  | _ => False
def jt_gfi (ci i : Nat) : jx_T := fun _ _ _ k lv st bc bs w => match st with
  | .ref a :: r => ∃ (fs : List Value) (x : Int32), jx_ob w a ci fs ∧ fs[i]? = some (.int x) ∧ k lv (.int x :: r) bc bs w
  | _ => False
def jt_gfl (ci i : Nat) : jx_T := fun _ _ _ k lv st bc bs w => match st with
  | .ref a :: r => ∃ (fs : List Value) (x : Int64), jx_ob w a ci fs ∧ fs[i]? = some (.long x) ∧ k lv (.long x :: r) bc bs w
  | _ => False
def jt_gfr (ci i : Nat) : jx_T := fun _ _ _ k lv st bc bs w => match st with
  | .ref a :: r => ∃ (fs : List Value) (x : Nat), jx_ob w a ci fs ∧ fs[i]? = some (.ref x) ∧ k lv (.ref x :: r) bc bs w
  | _ => False
def jt_pfi (ci i : Nat) : jx_T := fun _ _ _ k lv st bc bs w => match st with
  | .int x :: .ref a :: r => ∃ fs : List Value, jx_ob w a ci fs ∧ i < fs.length ∧ k lv r bc bs (jx_uob w a ci (fs.set i (.int x)))
  | _ => False
def jt_pfz (ci i : Nat) : jx_T := fun _ _ _ k lv st bc bs w => match st with
  | .int x :: .ref a :: r => ∃ fs : List Value, jx_ob w a ci fs ∧ i < fs.length ∧ (x = 0 ∨ x = 1) ∧ k lv r bc bs (jx_uob w a ci (fs.set i (.int x)))
  | _ => False
def jt_pfl (ci i : Nat) : jx_T := fun _ _ _ k lv st bc bs w => match st with
  | .long x :: .ref a :: r => ∃ fs : List Value, jx_ob w a ci fs ∧ i < fs.length ∧ k lv r bc bs (jx_uob w a ci (fs.set i (.long x)))
  | _ => False
def jt_pfr (ci i : Nat) : jx_T := fun _ _ _ k lv st bc bs w => match st with
  | .ref x :: .ref a :: r => ∃ fs : List Value, jx_ob w a ci fs ∧ i < fs.length ∧ k lv r bc bs (jx_uob w a ci (fs.set i (.ref x)))
  | _ => False
def jt_gs (i : Nat) : jx_T := fun _ _ _ k lv st bc bs w => k lv (.ref (w.2.1 i) :: st) bc bs w
def jt_iald : jx_T := fun _ _ _ k lv st bc bs w => match st with
  | .int i :: .ref a :: r => ∃ (n : Nat) (f : Nat → Int32), jx_ia w a n f ∧ vp_in i n ∧ k lv (.int (f i.toNatClampNeg) :: r) bc bs w
  | _ => False
def jt_rald : jx_T := fun _ _ _ k lv st bc bs w => match st with
  | .int i :: .ref a :: r => ∃ (n : Nat) (f : Nat → Int32), jx_ro w a n f ∧ vp_in i n ∧ k lv (.int (f i.toNatClampNeg) :: r) bc bs w
  | _ => False
def jt_bald : jx_T := fun _ _ _ k lv st bc bs w => match st with
  | .int i :: .ref a :: r => ∃ (n : Nat) (f : Nat → Int32), jx_ba w a n f ∧ vp_in i n ∧ k lv (.int (f i.toNatClampNeg) :: r) bc bs w
  | _ => False
def jt_aald (ci : Nat) : jx_T := fun _ _ _ k lv st bc bs w => match st with
  | .int i :: .ref a :: r => ∃ (n : Nat) (f : Nat → Option Nat) (b : Nat), jx_ra w a (jx_nm ci) n f ∧ vp_in i n ∧ f i.toNatClampNeg = some b ∧ k lv (.ref b :: r) bc bs w
  | _ => False
def jt_iast : jx_T := fun _ _ _ k lv st bc bs w => match st with
  | .int x :: .int i :: .ref a :: r => ∃ (n : Nat) (f : Nat → Int32), jx_ia w a n f ∧ vp_in i n ∧ k lv r bc bs (jx_uia w a n (upd f i.toNatClampNeg x))
  | _ => False
def jt_bast : jx_T := fun _ _ _ k lv st bc bs w => match st with
  | .int x :: .int i :: .ref a :: r => ∃ (n : Nat) (f : Nat → Int32), jx_ba w a n f ∧ vp_in i n ∧ k lv r bc bs (jx_uba w a n (upd f i.toNatClampNeg (vp_nar .byte x)))
  | _ => False
def jt_aast (ci : Nat) : jx_T := fun _ _ _ k lv st bc bs w => match st with
  | .ref v :: .int i :: .ref a :: r => ∃ (n : Nat) (f : Nat → Option Nat) (vs : List Value), jx_ra w a (jx_nm ci) n f ∧ jx_ob w v ci vs ∧ vp_in i n ∧ k lv r bc bs (jx_ura w a (jx_nm ci) n (va_up f i.toNatClampNeg (some v)))
  | _ => False
def jt_ilen : jx_T := fun _ _ _ k lv st bc bs w => match st with
  | .ref a :: r => ∃ (n : Nat) (f : Nat → Int32), jx_ia w a n f ∧ k lv (.int (Int32.ofNat n) :: r) bc bs w
  | _ => False
def jt_rlen : jx_T := fun _ _ _ k lv st bc bs w => match st with
  | .ref a :: r => ∃ (n : Nat) (f : Nat → Int32), jx_ro w a n f ∧ k lv (.int (Int32.ofNat n) :: r) bc bs w
  | _ => False
def jt_blen : jx_T := fun _ _ _ k lv st bc bs w => match st with
  | .ref a :: r => ∃ (n : Nat) (f : Nat → Int32), jx_ba w a n f ∧ k lv (.int (Int32.ofNat n) :: r) bc bs w
  | _ => False
/-- an object of class ci with N fields, as it is born -/
def jt_new (ci N : Nat) (fs : List Value) : jx_T := fun _ _ _ k lv st bc bs w => 1 ≤ bc ∧ N ≤ bs ∧ k lv (.ref w.1 :: st) (bc - 1) (bs - N) (jx_al w (.inr (ci, fs)))
def jt_newi : jx_T := fun _ _ _ k lv st bc bs w => match st with
  | .int n :: r => ∃ N : Nat, n = Int32.ofNat N ∧ N ≤ 100000 ∧ 1 ≤ bc ∧ N ≤ bs ∧ k lv (.ref w.1 :: r) (bc - 1) (bs - N) (jx_al w (.inl (.int, N, .inl (fun _ => 0))))
  | _ => False
def jt_newb : jx_T := fun _ _ _ k lv st bc bs w => match st with
  | .int n :: r => ∃ N : Nat, n = Int32.ofNat N ∧ N ≤ 100000 ∧ 1 ≤ bc ∧ N ≤ bs ∧ k lv (.ref w.1 :: r) (bc - 1) (bs - N) (jx_al w (.inl (.byte, N, .inl (fun _ => 0))))
  | _ => False
def jt_newr (ci : Nat) : jx_T := fun _ _ _ k lv st bc bs w => match st with
  | .int n :: r => ∃ N : Nat, n = Int32.ofNat N ∧ N ≤ 100000 ∧ 1 ≤ bc ∧ N ≤ bs ∧ k lv (.ref w.1 :: r) (bc - 1) (bs - N) (jx_al w (.inl (.object (jx_nm ci), N, .inr (.inr (.inr (.inr (fun _ => none)))))))
  | _ => False
def jt_cpy (ty : FieldType) : jx_T := fun _ _ _ k lv st bc bs w => match st with
  | [.int n, .int dp, .ref a, .int sp, .ref a0] => ∃ (n0 n1 : Nat) (f g : Nat → Int32), w.2.2 a0 = some (.inl (ty, n0, .inl f)) ∧ w.2.2 a = some (.inl (ty, n1, .inl g)) ∧ ¬ sp < 0 ∧ ¬ dp < 0 ∧ ¬ n < 0 ∧ sp.toNatClampNeg + n.toNatClampNeg ≤ n0 ∧ dp.toNatClampNeg + n.toNatClampNeg ≤ n1 ∧ (∀ i, i < n.toNatClampNeg → fits ty (.int (f (sp.toNatClampNeg + i))) = true) ∧ k lv [] bc bs (jx_up w a (.inl (ty, n1, .inl (va_cpy f g sp.toNatClampNeg dp.toNatClampNeg n.toNatClampNeg))))
  | _ => False
def jt_oi : jx_T := fun _ _ _ k lv st bc bs w => match st with
  | [.ref _] => k lv [] bc bs w
  | _ => False
def jt_ri : jx_T := fun _ _ q _ _ st _ _ w => match st with
  | [.int x] => q w (some (.int x))
  | _ => False
def jt_rz : jx_T := fun _ _ q _ _ st _ _ w => match st with
  | [.int x] => (x = 0 ∨ x = 1) ∧ q w (some (.int x))
  | _ => False
def jt_rl : jx_T := fun _ _ q _ _ st _ _ w => match st with
  | [.long x] => q w (some (.long x))
  | _ => False
def jt_rr : jx_T := fun _ _ q _ _ st _ _ w => match st with
  | [.ref x] => q w (some (.ref x))
  | _ => False
def jt_rv : jx_T := fun _ _ q _ _ st _ _ w => match st with
  | [] => q w none
  | _ => False
/-- a method: its name, code, locals, answer, the cells and slots that it may make, its frames and locals' words below it -/
abbrev jx_Me : Type := MethodName × ByteArray × Nat × Option FieldType × (Nat × Nat) × (Nat × Nat)
/-- a call of y with na values off the stack; rk: what comes back (0 nothing, 1 int, 2 long, 3 reference) -/
def jx_ret (rk : Nat) (k : List Value → jx_W → Prop) (rest : List Value) : jx_Q := match rk with
  | 0 => fun w r => r = none ∧ k rest w
  | 1 => fun w r => ∃ x : Int32, r = some (.int x) ∧ k (.int x :: rest) w
  | 2 => fun w r => ∃ x : Int64, r = some (.long x) ∧ k (.long x :: rest) w
  | _ => fun w r => ∃ x : Nat, r = some (.ref x) ∧ k (.ref x :: rest) w
def jx_fit (rest : List Value) (args : List Value) (maxL : Nat) : Bool := Nat.ble ((rest.map fun v => v.category).sum) 8 && Nat.ble (lg_sl args).length maxL
def jt_call (Tb : Nat → jx_Me) (y na rk : Nat) : jx_T := fun c _ _ k lv st bc bs w => match jx_fit (st.drop na) (st.take na).reverse (Tb y).2.2.1, Nat.beq (st.take na).length na with
  | true, true => c y (st.take na).reverse w (jx_ret rk (fun st' w' => k lv st' bc bs w') (st.drop na))
  | _, _ => False
/-- a call on an object of class ci -/
def jt_callV (Tb : Nat → jx_Me) (ci y na rk : Nat) : jx_T := fun c _ _ k lv st bc bs w => match jx_fit (st.drop na) (st.take na).reverse (Tb y).2.2.1, Nat.beq (st.take na).length na, (st.take na).reverse with
  | true, true, .ref a :: As => (∃ fs, jx_ob w a ci fs) ∧ c y (.ref a :: As) w (jx_ret rk (fun st' w' => k lv st' bc bs w') (st.drop na))
  | _, _, _ => False
/-- a constructor's call: it makes cells -/
def jt_callA (Tb : Nat → jx_Me) (y na : Nat) : jx_T := fun c _ _ k lv st bc bs w => match jx_fit (st.drop na) (st.take na).reverse (Tb y).2.2.1, Nat.beq (st.take na).length na, (st.take na).reverse with
  | true, true, .ref a :: As => (Tb y).2.2.2.2.1.1 ≤ bc ∧ (Tb y).2.2.2.2.1.2 ≤ bs ∧ c y (.ref a :: As) w (fun w' r => r = none ∧ k lv (st.drop na) (bc - (Tb y).2.2.2.2.1.1) (bs - (Tb y).2.2.2.2.1.2) w')
  | _, _, _ => False
end
section
/-! FROM THE PLAIN MACHINE TO THE KIT'S: what a heap has to do with a store; a row for each op -/
abbrev jx_G : Type := va_G × (FieldType → ClassId) × Nat × (Nat → Nat)
def jx_A (G : jx_G) : Nat → Prop := fun q => G.2.2.1 ≤ q
def jx_cv (G : jx_G) : jx_E → va_E
  | .inl (t, a) => .inl (G.2.1 t, a)
  | .inr o => .inr o
def jx_own : jx_E → Bool
  | .inl (.short, _) => false
  | _ => true
def jx_tys (G : jx_G) : List (ClassId × FieldType) := [(G.2.1 .int, .int), (G.2.1 .byte, .byte), (G.2.1 (.object RX2), .object RX2), (G.2.1 (.object RX5), .object RX5)]
def jx_wl : List Cond := lw_tbl.filter goodWord
def jx_sts : List (String × String × String) := [("TornStreams", "LOWEST_SETTING", "[I"), ("TornStreams", "HIGHEST_SETTING", "[I")]
def jx_nest : List (String × Nat × MethodName × String) := [("TornStreams", 19, ⟨"TornStreams$Automaton", "<init>", "()V"⟩, "TornStreams"), ("TornStreams", 28, ⟨"TornStreams$Finds", "<init>", "()V"⟩, "TornStreams"), ("TornStreams$State", 11, ⟨"TornStreams$Words", "<init>", "()V"⟩, "TornStreams"), ("TornStreams$Reader", 93, ⟨"TornStreams", "isLetter", "(I)Z"⟩, "TornStreams")]
def jx_F (G : jx_G) (s : State) : Prop := va_K G.1 vwCl (jx_tys G) s ∧ G.2.2.1 ≤ s.heap.size ∧ (∀ (i : Nat) (q : String × String × String), jx_sts[i]? = some q → va_Z q.1 q.2.1 q.2.2 (.ref (G.2.2.2 i)) (jx_A G) s s.heap) ∧ va_AO RX2 s ∧ va_AO RX5 s ∧ ∀ q ∈ jx_nest, va_Nw (.methodLinkNest q.1 q.2.1 q.2.2.1 q.2.2.2) s
def jx_H (G : jx_G) (s : State) (w : jx_W) (H : Heap) : Prop := H.size = w.1 ∧ w.2.1 = G.2.2.2 ∧ (∀ (a n : Nat) (f : Nat → Int32), w.2.2 a = some (.inl (.short, n, .inl f)) → va_T .int a n (fun j => .int (f j)) (jx_A G) s H) ∧ ∀ (a : Nat) (e : jx_E), w.2.2 a = some e → jx_own e = true → jx_A G a ∧ va_at G.1 vwCl (a, jx_cv G e) H
def jx_PW (G : jx_G) (w : jx_W) (U : State) : Prop := jx_F G U ∧ jx_H G U w U.heap
theorem jx_F.moved {G : jx_G} {s U : State} (h : jx_F G s) (hW : s.WarmedH U.vm) (hz : s.heap.size ≤ U.heap.size) (hq : ∀ a : Nat, a < s.heap.size → ¬ jx_A G a → U.heap[a]? = s.heap[a]?) : jx_F G U := by
  obtain ⟨h1, h2, h3, h4, h5, h6⟩ := h
  exact ⟨va_K.moved hW.alike h1, Nat.le_trans h2 hz, fun i q hi => ((h3 i q hi).moved hW.alike).kept hq, h4.moved hW.alike, h5.moved hW.alike, fun q hm => (h6 q hm).warmM hW⟩
theorem jx_F.calling {G : jx_G} {U : State} {g : JFrame} {mk : MethodId} {a : Array Value} (h : jx_F G U) : jx_F G (U.calling g mk a) := by
  obtain ⟨h1, h2, h3, h4, h5, h6⟩ := h
  exact ⟨va_K.moved (u := U) (U := U.calling g mk a) (Vm.Alike.refl U.vm) h1, h2, fun i q hi => (h3 i q hi).moved (u := U) (U := U.calling g mk a) (Vm.Alike.refl U.vm), h4.moved (u := U) (U := U.calling g mk a) (Vm.Alike.refl U.vm), h5.moved (u := U) (U := U.calling g mk a) (Vm.Alike.refl U.vm), fun q hm => (h6 q hm).same (u := U) (U := U.calling g mk a) rfl rfl⟩
theorem jx_H.moved {G : jx_G} {u U : State} {w : jx_W} {H : Heap} (hvm : u.vm.Alike U.vm) (h : jx_H G u w H) : jx_H G U w H := by
  obtain ⟨h1, h2, h3, h4⟩ := h
  exact ⟨h1, h2, fun a n f ha => (h3 a n f ha).moved hvm, h4⟩
theorem jx_PW.calling {G : jx_G} {w : jx_W} {U : State} {g : JFrame} {mk : MethodId} {a : Array Value} (h : jx_PW G w U) : jx_PW G w (U.calling g mk a) := ⟨h.1.calling, jx_H.moved (u := U) (U := U.calling g mk a) (Vm.Alike.refl U.vm) h.2⟩
theorem jx_H.put {G : jx_G} {s : State} {w : jx_W} {H H1 : Heap} {a : Nat} {e : jx_E} (h : jx_H G s w H) (ha : jx_A G a) (ho : jx_own e = true) (z : H1.size = H.size) (oq : ∀ q : Nat, q ≠ a → H1[q]? = H[q]?) (he : va_at G.1 vwCl (a, jx_cv G e) H1) : jx_H G s (jx_up w a e) H1 := by
  obtain ⟨h1, h2, h3, h4⟩ := h
  refine ⟨z.trans h1, h2, fun b n f hb => ?_, fun b e' hb ho' => ?_⟩
  · have hb' : (if b = a then some e else w.2.2 b) = some (.inl (.short, n, .inl f)) := hb
    by_cases hba : b = a
    · rw [if_pos hba] at hb'
      rw [Option.some.inj hb'] at ho
      cases ho
    · rw [if_neg hba] at hb'
      exact (h3 b n f hb').kept (fun q _ hq => oq q (fun e => hq (by rw [e]; exact ha)))
  · have hb' : (if b = a then some e else w.2.2 b) = some e' := hb
    by_cases hba : b = a
    · rw [if_pos hba] at hb'
      rw [← Option.some.inj hb', hba]
      exact ⟨ha, he⟩
    · rw [if_neg hba] at hb'
      obtain ⟨g1, g2⟩ := h4 b e' hb' ho'
      exact ⟨g1, g2.kept (oq b hba)⟩
theorem jx_H.new {G : jx_G} {s : State} {w : jx_W} {H H1 : Heap} {e : jx_E} (h : jx_H G s w H) (ha : jx_A G H.size) (ho : jx_own e = true) (z : H1.size = H.size + 1) (oq : ∀ q : Nat, q < H.size → H1[q]? = H[q]?) (he : va_at G.1 vwCl (H.size, jx_cv G e) H1) : jx_H G s (jx_al w e) H1 := by
  obtain ⟨h1, h2, h3, h4⟩ := h
  refine ⟨by rw [z, h1]; rfl, h2, fun b n f hb => ?_, fun b e' hb ho' => ?_⟩
  · have hb' : (if b = w.1 then some e else w.2.2 b) = some (.inl (.short, n, .inl f)) := hb
    by_cases hba : b = w.1
    · rw [if_pos hba] at hb'
      rw [Option.some.inj hb'] at ho
      cases ho
    · rw [if_neg hba] at hb'
      exact (h3 b n f hb').kept (fun q hq _ => oq q hq)
  · have hb' : (if b = w.1 then some e else w.2.2 b) = some e' := hb
    by_cases hba : b = w.1
    · rw [if_pos hba] at hb'
      rw [← Option.some.inj hb', hba, ← h1]
      exact ⟨ha, he⟩
    · rw [if_neg hba] at hb'
      obtain ⟨g1, g2⟩ := h4 b e' hb' ho'
      exact ⟨g1, g2.kept (oq b g2.lt)⟩
/-- a cell of the store as a world of its own -/
theorem jx_H.one {G : jx_G} {s : State} {w : jx_W} {H : Heap} {a : Nat} {e : jx_E} (h : jx_H G s w H) (ha : w.2.2 a = some e) (ho : jx_own e = true) : va_P G.1 vwCl [(a, jx_cv G e)] H := fun k q hq => by
  have hz : k < 1 := (List.getElem?_eq_some_iff.mp hq).1
  rw [show k = 0 by omega] at hq
  cases hq
  exact (h.2.2.2 a e ha ho).2
theorem jx_get_mem {lv : jx_L} {i : Nat} {v : Value} (h : jx_get lv i = some v) : (i, v) ∈ lv := by
  induction lv with
  | nil => cases h
  | cons q t ih =>
    obtain ⟨j, u⟩ := q
    unfold jx_get at h
    cases hb : Nat.beq j i with
    | true =>
      rw [hb] at h
      have : j = i := Nat.eq_of_beq_eq_true hb
      subst this
      cases h
      exact List.mem_cons_self
    | false => rw [hb] at h; exact List.mem_cons_of_mem _ (ih h)
theorem jx_get_has {ls : Array Slot} {nL : Nat} {lv : jx_L} {i : Nat} {v : Value} (hl : lv_has ls nL lv) (h : jx_get lv i = some v) : ls[i]? = some (.val v) := hl.2.2 (i, v) (jx_get_mem h)
theorem jx_pick_sub {lv : jx_L} : ∀ (is : List Nat) (q : Nat × Value), q ∈ jx_pick is lv → q ∈ lv
  | [], q, h => by cases h
  | i :: t, q, h => by
    unfold jx_pick at h
    cases hg : jx_get lv i with
    | none => rw [hg] at h; exact jx_pick_sub t q h
    | some v =>
      rw [hg] at h
      rcases List.mem_cons.mp h with h | h
      · rw [h]; exact jx_get_mem hg
      · exact jx_pick_sub t q h
theorem jx_pick_has {ls : Array Slot} {nL : Nat} {lv : jx_L} (hl : lv_has ls nL lv) (is : List Nat) : lv_has ls nL (jx_pick is lv) := ⟨hl.1, hl.2.1, fun q hq => hl.2.2 q (jx_pick_sub is q hq)⟩
def jx_X (p : Program) (s : State) (m : MethodId) (args : Array Value) (meth : Method) (c : Code) (R : Room) (G : jx_G) (own nm : String) (cc : ByteArray) (nL mc ms : Nat) : Prop :=
  p.tables.exec = Jvm.exec ∧ c.code = cc ∧ c.maxLocals = nL ∧ s.vm.findClass own = some m.cls ∧ (∀ w ∈ jx_wl, w.before args s = true) ∧ meth.name = nm ∧ jx_F G s ∧ R.cells = mc ∧ R.slots = ms
def jx_KS (p : Program) (l : Launch) (e : Env) (R : Room) (s : State) (m : MethodId) (args : Array Value) (below : List Frame) (meth : Method) (c : Code) (Φ : State → Prop) (G : jx_G) (nL mc ms : Nat) (pc : Nat) (K : jx_K) : Prop :=
  ∀ (H : Heap) (locs : List Loc) (cells slots : Nat) (ls : Array Slot) (lv : jx_L) (st : List Value) (bc bs : Nat) (w : jx_W),
    va_S (jx_A G) s.heap H locs → jx_H G s w H → lv_has ls nL lv → cells + bc = mc → slots + bs = ms → K lv st bc bs w → W p l e R s m args below meth c H locs cells slots Φ (F0 m pc ls st)
section JXR
variable {p : Program} {l : Launch} {e : Env} {R : Room} {s : State} {m : MethodId} {args : Array Value} {below : List Frame} {meth : Method} {c : Code} {Φ : State → Prop} {G : jx_G} {own nm : String} {cc : ByteArray} {nL mc ms pc : Nat} {C : jx_C} {J : jx_J} {q : jx_Q} {K : jx_K}
theorem js_iconst (X : jx_X p s m args meth c R G own nm cc nL mc ms) {n : Int} {v : Int32} (hv : Int32.ofInt n = v) (d : decode cc pc = .ok (.iconst n, 1)) (hk : jx_KS p l e R s m args below meth c Φ G nL mc ms (pc + 1) (K)) : jx_KS p l e R s m args below meth c Φ G nL mc ms (pc) (jt_c (.int v) C J q K) := fun H locs cells slots ls lv st bc bs w hS hH hl hc hs h => lv_iconst X.1 X.2.1 d hv (hk _ _ _ _ _ _ _ _ _ _ hS hH hl hc hs h)
theorem js_bipush (X : jx_X p s m args meth c R G own nm cc nL mc ms) {n : Int} {v : Int32} (hv : (Int8.ofInt n).toInt32 = v) (d : decode cc pc = .ok (.bipush n, 2)) (hk : jx_KS p l e R s m args below meth c Φ G nL mc ms (pc + 2) (K)) : jx_KS p l e R s m args below meth c Φ G nL mc ms (pc) (jt_c (.int v) C J q K) := fun H locs cells slots ls lv st bc bs w hS hH hl hc hs h => lv_bipush X.1 X.2.1 d hv (hk _ _ _ _ _ _ _ _ _ _ hS hH hl hc hs h)
theorem js_sipush (X : jx_X p s m args meth c R G own nm cc nL mc ms) {n : Int} {v : Int32} (hv : (Int16.ofInt n).toInt32 = v) (d : decode cc pc = .ok (.sipush n, 3)) (hk : jx_KS p l e R s m args below meth c Φ G nL mc ms (pc + 3) (K)) : jx_KS p l e R s m args below meth c Φ G nL mc ms (pc) (jt_c (.int v) C J q K) := fun H locs cells slots ls lv st bc bs w hS hH hl hc hs h => lv_sipush X.1 X.2.1 d hv (hk _ _ _ _ _ _ _ _ _ _ hS hH hl hc hs h)
theorem js_lconst (X : jx_X p s m args meth c R G own nm cc nL mc ms) {n : Fin 2} {v : Int64} (hv : Int64.ofNat (n : Nat) = v) (d : decode cc pc = .ok (.lconst n, 1)) (hk : jx_KS p l e R s m args below meth c Φ G nL mc ms (pc + 1) (K)) : jx_KS p l e R s m args below meth c Φ G nL mc ms (pc) (jt_c (.long v) C J q K) := fun H locs cells slots ls lv st bc bs w hS hH hl hc hs h => lv_lconst X.1 X.2.1 d hv (hk _ _ _ _ _ _ _ _ _ _ hS hH hl hc hs h)
theorem js_ldcw (X : jx_X p s m args meth c R G own nm cc nL mc ms) {index : Nat} {v : Int32} (hw : (Cond.constant own index v) ∈ jx_wl) (d : decode cc pc = .ok (.ldc_w index, 3)) (hk : jx_KS p l e R s m args below meth c Φ G nL mc ms (pc + 3) (K)) : jx_KS p l e R s m args below meth c Φ G nL mc ms (pc) (jt_c (.int v) C J q K) := fun H locs cells slots ls lv st bc bs w hS hH hl hc hs h => lv_ldcw X.1 X.2.1 X.2.2.2.1 (X.2.2.2.2.1 _ hw) d (hk _ _ _ _ _ _ _ _ _ _ hS hH hl hc hs h)
theorem js_ldc (X : jx_X p s m args meth c R G own nm cc nL mc ms) {index : Nat} {v : Int32} (hw : (Cond.constant own index v) ∈ jx_wl) (d : decode cc pc = .ok (.ldc index, 2)) (hk : jx_KS p l e R s m args below meth c Φ G nL mc ms (pc + 2) (K)) : jx_KS p l e R s m args below meth c Φ G nL mc ms (pc) (jt_c (.int v) C J q K) := fun H locs cells slots ls lv st bc bs w hS hH hl hc hs h => lv_ldc X.1 X.2.1 X.2.2.2.1 (X.2.2.2.2.1 _ hw) d (hk _ _ _ _ _ _ _ _ _ _ hS hH hl hc hs h)
theorem js_ldc2 (X : jx_X p s m args meth c R G own nm cc nL mc ms) {index : Nat} {v : Int64} (hw : (Cond.constantLong own index v) ∈ jx_wl) (d : decode cc pc = .ok (.ldc2_w index, 3)) (hk : jx_KS p l e R s m args below meth c Φ G nL mc ms (pc + 3) (K)) : jx_KS p l e R s m args below meth c Φ G nL mc ms (pc) (jt_c (.long v) C J q K) := fun H locs cells slots ls lv st bc bs w hS hH hl hc hs h => lv_ldc2 X.1 X.2.1 X.2.2.2.1 (X.2.2.2.2.1 _ hw) d (hk _ _ _ _ _ _ _ _ _ _ hS hH hl hc hs h)
theorem js_iload (X : jx_X p s m args meth c R G own nm cc nL mc ms) {i : Nat} (d : decode cc pc = .ok (.iload i, 2)) (hk : jx_KS p l e R s m args below meth c Φ G nL mc ms (pc + 2) (K)) : jx_KS p l e R s m args below meth c Φ G nL mc ms (pc) (jt_ldi i C J q K) := by
  intro H locs cells slots ls lv st bc bs w hS hH hl hc hs h
  unfold jt_ldi at h
  split at h
  · rename_i hg; exact lv_iload X.1 X.2.1 d (jx_get_has hl hg) (hk _ _ _ _ _ _ _ _ _ _ hS hH hl hc hs h)
  · exact h.elim
theorem js_iload_n (X : jx_X p s m args meth c R G own nm cc nL mc ms) {i : Fin 4} (d : decode cc pc = .ok (.iload_n i, 1)) (hk : jx_KS p l e R s m args below meth c Φ G nL mc ms (pc + 1) (K)) : jx_KS p l e R s m args below meth c Φ G nL mc ms (pc) (jt_ldi (i : Nat) C J q K) := by
  intro H locs cells slots ls lv st bc bs w hS hH hl hc hs h
  unfold jt_ldi at h
  split at h
  · rename_i hg; exact lv_iload_n X.1 X.2.1 d rfl (jx_get_has hl hg) (hk _ _ _ _ _ _ _ _ _ _ hS hH hl hc hs h)
  · exact h.elim
theorem js_lload (X : jx_X p s m args meth c R G own nm cc nL mc ms) {i : Nat} (d : decode cc pc = .ok (.lload i, 2)) (hk : jx_KS p l e R s m args below meth c Φ G nL mc ms (pc + 2) (K)) : jx_KS p l e R s m args below meth c Φ G nL mc ms (pc) (jt_ldl i C J q K) := by
  intro H locs cells slots ls lv st bc bs w hS hH hl hc hs h
  unfold jt_ldl at h
  split at h
  · rename_i hg; exact lv_lload X.1 X.2.1 d (jx_get_has hl hg) (hk _ _ _ _ _ _ _ _ _ _ hS hH hl hc hs h)
  · exact h.elim
theorem js_lload_n (X : jx_X p s m args meth c R G own nm cc nL mc ms) {i : Fin 4} (d : decode cc pc = .ok (.lload_n i, 1)) (hk : jx_KS p l e R s m args below meth c Φ G nL mc ms (pc + 1) (K)) : jx_KS p l e R s m args below meth c Φ G nL mc ms (pc) (jt_ldl (i : Nat) C J q K) := by
  intro H locs cells slots ls lv st bc bs w hS hH hl hc hs h
  unfold jt_ldl at h
  split at h
  · rename_i hg; exact lv_lload_n X.1 X.2.1 d rfl (jx_get_has hl hg) (hk _ _ _ _ _ _ _ _ _ _ hS hH hl hc hs h)
  · exact h.elim
theorem js_aload (X : jx_X p s m args meth c R G own nm cc nL mc ms) {i : Nat} (d : decode cc pc = .ok (.aload i, 2)) (hk : jx_KS p l e R s m args below meth c Φ G nL mc ms (pc + 2) (K)) : jx_KS p l e R s m args below meth c Φ G nL mc ms (pc) (jt_lda i C J q K) := by
  intro H locs cells slots ls lv st bc bs w hS hH hl hc hs h
  unfold jt_lda at h
  split at h
  · rename_i hg; exact lv_aload X.1 X.2.1 d (jx_get_has hl hg) (hk _ _ _ _ _ _ _ _ _ _ hS hH hl hc hs h)
  · exact h.elim
theorem js_aload_n (X : jx_X p s m args meth c R G own nm cc nL mc ms) {i : Fin 4} (d : decode cc pc = .ok (.aload_n i, 1)) (hk : jx_KS p l e R s m args below meth c Φ G nL mc ms (pc + 1) (K)) : jx_KS p l e R s m args below meth c Φ G nL mc ms (pc) (jt_lda (i : Nat) C J q K) := by
  intro H locs cells slots ls lv st bc bs w hS hH hl hc hs h
  unfold jt_lda at h
  split at h
  · rename_i hg; exact lv_aload_n X.1 X.2.1 d rfl (jx_get_has hl hg) (hk _ _ _ _ _ _ _ _ _ _ hS hH hl hc hs h)
  · exact h.elim
theorem js_istore_n (X : jx_X p s m args meth c R G own nm cc nL mc ms) {i : Fin 4} (hn : (i : Nat) < nL) (d : decode cc pc = .ok (.istore_n i, 1)) (hk : jx_KS p l e R s m args below meth c Φ G nL mc ms (pc + 1) (K)) : jx_KS p l e R s m args below meth c Φ G nL mc ms (pc) (jt_sti (i : Nat) C J q K) := by
  intro H locs cells slots ls lv st bc bs w hS hH hl hc hs h
  unfold jt_sti at h
  split at h
  · exact lv_istore_n X.1 X.2.1 d rfl hl hn rfl (fun ls' hl' => hk _ _ _ _ _ _ _ _ _ _ hS hH hl' hc hs h)
  · exact h.elim
theorem js_istore (X : jx_X p s m args meth c R G own nm cc nL mc ms) {i : Nat} (hn : i < nL) (d : decode cc pc = .ok (.istore i, 2)) (hk : jx_KS p l e R s m args below meth c Φ G nL mc ms (pc + 2) (K)) : jx_KS p l e R s m args below meth c Φ G nL mc ms (pc) (jt_sti i C J q K) := by
  intro H locs cells slots ls lv st bc bs w hS hH hl hc hs h
  unfold jt_sti at h
  split at h
  · exact lv_istore X.1 X.2.1 d hl hn rfl (fun ls' hl' => hk _ _ _ _ _ _ _ _ _ _ hS hH hl' hc hs h)
  · exact h.elim
theorem js_lstore_n (X : jx_X p s m args meth c R G own nm cc nL mc ms) {i : Fin 4} (hn : (i : Nat) + 1 < nL) (d : decode cc pc = .ok (.lstore_n i, 1)) (hk : jx_KS p l e R s m args below meth c Φ G nL mc ms (pc + 1) (K)) : jx_KS p l e R s m args below meth c Φ G nL mc ms (pc) (jt_stl (i : Nat) C J q K) := by
  intro H locs cells slots ls lv st bc bs w hS hH hl hc hs h
  unfold jt_stl at h
  split at h
  · exact lv_lstore_n X.1 X.2.1 d rfl hl hn rfl (fun ls' hl' => hk _ _ _ _ _ _ _ _ _ _ hS hH hl' hc hs h)
  · exact h.elim
theorem js_lstore (X : jx_X p s m args meth c R G own nm cc nL mc ms) {i : Nat} (hn : i + 1 < nL) (d : decode cc pc = .ok (.lstore i, 2)) (hk : jx_KS p l e R s m args below meth c Φ G nL mc ms (pc + 2) (K)) : jx_KS p l e R s m args below meth c Φ G nL mc ms (pc) (jt_stl i C J q K) := by
  intro H locs cells slots ls lv st bc bs w hS hH hl hc hs h
  unfold jt_stl at h
  split at h
  · exact lv_lstore X.1 X.2.1 d hl hn rfl (fun ls' hl' => hk _ _ _ _ _ _ _ _ _ _ hS hH hl' hc hs h)
  · exact h.elim
theorem js_astore_n (X : jx_X p s m args meth c R G own nm cc nL mc ms) {i : Fin 4} (hn : (i : Nat) < nL) (d : decode cc pc = .ok (.astore_n i, 1)) (hk : jx_KS p l e R s m args below meth c Φ G nL mc ms (pc + 1) (K)) : jx_KS p l e R s m args below meth c Φ G nL mc ms (pc) (jt_sta (i : Nat) C J q K) := by
  intro H locs cells slots ls lv st bc bs w hS hH hl hc hs h
  unfold jt_sta at h
  split at h
  · exact lv_astore_n X.1 X.2.1 d rfl hl hn rfl (fun ls' hl' => hk _ _ _ _ _ _ _ _ _ _ hS hH hl' hc hs h)
  · exact h.elim
theorem js_astore (X : jx_X p s m args meth c R G own nm cc nL mc ms) {i : Nat} (hn : i < nL) (d : decode cc pc = .ok (.astore i, 2)) (hk : jx_KS p l e R s m args below meth c Φ G nL mc ms (pc + 2) (K)) : jx_KS p l e R s m args below meth c Φ G nL mc ms (pc) (jt_sta i C J q K) := by
  intro H locs cells slots ls lv st bc bs w hS hH hl hc hs h
  unfold jt_sta at h
  split at h
  · exact lv_astore X.1 X.2.1 d hl hn rfl (fun ls' hl' => hk _ _ _ _ _ _ _ _ _ _ hS hH hl' hc hs h)
  · exact h.elim
theorem js_iinc (X : jx_X p s m args meth c R G own nm cc nL mc ms) {i : Nat} {n : Int} {v : Int32} (hv : Int32.ofInt n = v) (hn : i < nL) (d : decode cc pc = .ok (.iinc i n, 3)) (hk : jx_KS p l e R s m args below meth c Φ G nL mc ms (pc + 3) (K)) : jx_KS p l e R s m args below meth c Φ G nL mc ms (pc) (jt_inc i v C J q K) := by
  intro H locs cells slots ls lv st bc bs w hS hH hl hc hs h
  unfold jt_inc at h
  split at h
  · rename_i hg; obtain ⟨k0, hk0⟩ := List.getElem?_of_mem (jx_get_mem hg); exact lv_iinc X.1 X.2.1 d hl hk0 (by rw [hv]) hn rfl (fun ls' hl' => hk _ _ _ _ _ _ _ _ _ _ hS hH hl' hc hs h)
  · exact h.elim
theorem js_iadd (X : jx_X p s m args meth c R G own nm cc nL mc ms)  (d : decode cc pc = .ok (.iadd, 1)) (hk : jx_KS p l e R s m args below meth c Φ G nL mc ms (pc + 1) (K)) : jx_KS p l e R s m args below meth c Φ G nL mc ms (pc) (jt_ii (fun x y => x + y) C J q K) := by
  intro H locs cells slots ls lv st bc bs w hS hH hl hc hs h
  unfold jt_ii at h
  split at h
  · exact lv_iadd X.1 X.2.1 d (hk _ _ _ _ _ _ _ _ _ _ hS hH hl hc hs h)
  · exact h.elim
theorem js_isub (X : jx_X p s m args meth c R G own nm cc nL mc ms)  (d : decode cc pc = .ok (.isub, 1)) (hk : jx_KS p l e R s m args below meth c Φ G nL mc ms (pc + 1) (K)) : jx_KS p l e R s m args below meth c Φ G nL mc ms (pc) (jt_ii (fun x y => x - y) C J q K) := by
  intro H locs cells slots ls lv st bc bs w hS hH hl hc hs h
  unfold jt_ii at h
  split at h
  · exact lv_isub X.1 X.2.1 d (hk _ _ _ _ _ _ _ _ _ _ hS hH hl hc hs h)
  · exact h.elim
theorem js_imul (X : jx_X p s m args meth c R G own nm cc nL mc ms)  (d : decode cc pc = .ok (.imul, 1)) (hk : jx_KS p l e R s m args below meth c Φ G nL mc ms (pc + 1) (K)) : jx_KS p l e R s m args below meth c Φ G nL mc ms (pc) (jt_ii (fun x y => x * y) C J q K) := by
  intro H locs cells slots ls lv st bc bs w hS hH hl hc hs h
  unfold jt_ii at h
  split at h
  · exact lv_imul X.1 X.2.1 d (hk _ _ _ _ _ _ _ _ _ _ hS hH hl hc hs h)
  · exact h.elim
theorem js_iand (X : jx_X p s m args meth c R G own nm cc nL mc ms)  (d : decode cc pc = .ok (.iand, 1)) (hk : jx_KS p l e R s m args below meth c Φ G nL mc ms (pc + 1) (K)) : jx_KS p l e R s m args below meth c Φ G nL mc ms (pc) (jt_ii (fun x y => x &&& y) C J q K) := by
  intro H locs cells slots ls lv st bc bs w hS hH hl hc hs h
  unfold jt_ii at h
  split at h
  · exact lv_iand X.1 X.2.1 d (hk _ _ _ _ _ _ _ _ _ _ hS hH hl hc hs h)
  · exact h.elim
theorem js_ior (X : jx_X p s m args meth c R G own nm cc nL mc ms)  (d : decode cc pc = .ok (.ior, 1)) (hk : jx_KS p l e R s m args below meth c Φ G nL mc ms (pc + 1) (K)) : jx_KS p l e R s m args below meth c Φ G nL mc ms (pc) (jt_ii (fun x y => x ||| y) C J q K) := by
  intro H locs cells slots ls lv st bc bs w hS hH hl hc hs h
  unfold jt_ii at h
  split at h
  · exact lv_ior X.1 X.2.1 d (hk _ _ _ _ _ _ _ _ _ _ hS hH hl hc hs h)
  · exact h.elim
theorem js_ixor (X : jx_X p s m args meth c R G own nm cc nL mc ms)  (d : decode cc pc = .ok (.ixor, 1)) (hk : jx_KS p l e R s m args below meth c Φ G nL mc ms (pc + 1) (K)) : jx_KS p l e R s m args below meth c Φ G nL mc ms (pc) (jt_ii (fun x y => x ^^^ y) C J q K) := by
  intro H locs cells slots ls lv st bc bs w hS hH hl hc hs h
  unfold jt_ii at h
  split at h
  · exact lv_ixor X.1 X.2.1 d (hk _ _ _ _ _ _ _ _ _ _ hS hH hl hc hs h)
  · exact h.elim
theorem js_ishl (X : jx_X p s m args meth c R G own nm cc nL mc ms)  (d : decode cc pc = .ok (.ishl, 1)) (hk : jx_KS p l e R s m args below meth c Φ G nL mc ms (pc + 1) (K)) : jx_KS p l e R s m args below meth c Φ G nL mc ms (pc) (jt_ii (fun x y => x <<< (y &&& 31)) C J q K) := by
  intro H locs cells slots ls lv st bc bs w hS hH hl hc hs h
  unfold jt_ii at h
  split at h
  · exact lv_ishl X.1 X.2.1 d (hk _ _ _ _ _ _ _ _ _ _ hS hH hl hc hs h)
  · exact h.elim
theorem js_ishr (X : jx_X p s m args meth c R G own nm cc nL mc ms)  (d : decode cc pc = .ok (.ishr, 1)) (hk : jx_KS p l e R s m args below meth c Φ G nL mc ms (pc + 1) (K)) : jx_KS p l e R s m args below meth c Φ G nL mc ms (pc) (jt_ii (fun x y => x >>> (y &&& 31)) C J q K) := by
  intro H locs cells slots ls lv st bc bs w hS hH hl hc hs h
  unfold jt_ii at h
  split at h
  · exact lv_ishr X.1 X.2.1 d (hk _ _ _ _ _ _ _ _ _ _ hS hH hl hc hs h)
  · exact h.elim
theorem js_iushr (X : jx_X p s m args meth c R G own nm cc nL mc ms)  (d : decode cc pc = .ok (.iushr, 1)) (hk : jx_KS p l e R s m args below meth c Φ G nL mc ms (pc + 1) (K)) : jx_KS p l e R s m args below meth c Φ G nL mc ms (pc) (jt_ii (fun x y => (x.toUInt32 >>> (y.toUInt32 &&& Int32.toUInt32 31)).toInt32) C J q K) := by
  intro H locs cells slots ls lv st bc bs w hS hH hl hc hs h
  unfold jt_ii at h
  split at h
  · exact lv_iushr X.1 X.2.1 d rfl (hk _ _ _ _ _ _ _ _ _ _ hS hH hl hc hs h)
  · exact h.elim
theorem js_irem (X : jx_X p s m args meth c R G own nm cc nL mc ms)  (d : decode cc pc = .ok (.irem, 1)) (hk : jx_KS p l e R s m args below meth c Φ G nL mc ms (pc + 1) (K)) : jx_KS p l e R s m args below meth c Φ G nL mc ms (pc) (jt_irem C J q K) := by
  intro H locs cells slots ls lv st bc bs w hS hH hl hc hs h
  unfold jt_irem at h
  split at h
  · exact lv_irem X.1 X.2.1 d h.1 (hk _ _ _ _ _ _ _ _ _ _ hS hH hl hc hs h.2)
  · exact h.elim
theorem js_ladd (X : jx_X p s m args meth c R G own nm cc nL mc ms)  (d : decode cc pc = .ok (.ladd, 1)) (hk : jx_KS p l e R s m args below meth c Φ G nL mc ms (pc + 1) (K)) : jx_KS p l e R s m args below meth c Φ G nL mc ms (pc) (jt_ll (fun x y => x + y) C J q K) := by
  intro H locs cells slots ls lv st bc bs w hS hH hl hc hs h
  unfold jt_ll at h
  split at h
  · exact lv_ladd X.1 X.2.1 d (hk _ _ _ _ _ _ _ _ _ _ hS hH hl hc hs h)
  · exact h.elim
theorem js_lsub (X : jx_X p s m args meth c R G own nm cc nL mc ms)  (d : decode cc pc = .ok (.lsub, 1)) (hk : jx_KS p l e R s m args below meth c Φ G nL mc ms (pc + 1) (K)) : jx_KS p l e R s m args below meth c Φ G nL mc ms (pc) (jt_ll (fun x y => x - y) C J q K) := by
  intro H locs cells slots ls lv st bc bs w hS hH hl hc hs h
  unfold jt_ll at h
  split at h
  · exact lv_lsub X.1 X.2.1 d (hk _ _ _ _ _ _ _ _ _ _ hS hH hl hc hs h)
  · exact h.elim
theorem js_lmul (X : jx_X p s m args meth c R G own nm cc nL mc ms)  (d : decode cc pc = .ok (.lmul, 1)) (hk : jx_KS p l e R s m args below meth c Φ G nL mc ms (pc + 1) (K)) : jx_KS p l e R s m args below meth c Φ G nL mc ms (pc) (jt_ll (fun x y => x * y) C J q K) := by
  intro H locs cells slots ls lv st bc bs w hS hH hl hc hs h
  unfold jt_ll at h
  split at h
  · exact lv_lmul X.1 X.2.1 d (hk _ _ _ _ _ _ _ _ _ _ hS hH hl hc hs h)
  · exact h.elim
theorem js_land (X : jx_X p s m args meth c R G own nm cc nL mc ms)  (d : decode cc pc = .ok (.land, 1)) (hk : jx_KS p l e R s m args below meth c Φ G nL mc ms (pc + 1) (K)) : jx_KS p l e R s m args below meth c Φ G nL mc ms (pc) (jt_ll (fun x y => x &&& y) C J q K) := by
  intro H locs cells slots ls lv st bc bs w hS hH hl hc hs h
  unfold jt_ll at h
  split at h
  · exact lv_land X.1 X.2.1 d (hk _ _ _ _ _ _ _ _ _ _ hS hH hl hc hs h)
  · exact h.elim
theorem js_lor (X : jx_X p s m args meth c R G own nm cc nL mc ms)  (d : decode cc pc = .ok (.lor, 1)) (hk : jx_KS p l e R s m args below meth c Φ G nL mc ms (pc + 1) (K)) : jx_KS p l e R s m args below meth c Φ G nL mc ms (pc) (jt_ll (fun x y => x ||| y) C J q K) := by
  intro H locs cells slots ls lv st bc bs w hS hH hl hc hs h
  unfold jt_ll at h
  split at h
  · exact lv_lor X.1 X.2.1 d (hk _ _ _ _ _ _ _ _ _ _ hS hH hl hc hs h)
  · exact h.elim
theorem js_lshl (X : jx_X p s m args meth c R G own nm cc nL mc ms)  (d : decode cc pc = .ok (.lshl, 1)) (hk : jx_KS p l e R s m args below meth c Φ G nL mc ms (pc + 1) (K)) : jx_KS p l e R s m args below meth c Φ G nL mc ms (pc) (jt_li (fun x y => x <<< (y.toInt64 &&& 63)) C J q K) := by
  intro H locs cells slots ls lv st bc bs w hS hH hl hc hs h
  unfold jt_li at h
  split at h
  · exact lv_lshl X.1 X.2.1 d rfl (hk _ _ _ _ _ _ _ _ _ _ hS hH hl hc hs h)
  · exact h.elim
theorem js_lushr (X : jx_X p s m args meth c R G own nm cc nL mc ms)  (d : decode cc pc = .ok (.lushr, 1)) (hk : jx_KS p l e R s m args below meth c Φ G nL mc ms (pc + 1) (K)) : jx_KS p l e R s m args below meth c Φ G nL mc ms (pc) (jt_li (fun x y => (x.toUInt64 >>> (y.toInt64.toUInt64 &&& Int64.toUInt64 63)).toInt64) C J q K) := by
  intro H locs cells slots ls lv st bc bs w hS hH hl hc hs h
  unfold jt_li at h
  split at h
  · exact lv_lushr X.1 X.2.1 d rfl (hk _ _ _ _ _ _ _ _ _ _ hS hH hl hc hs h)
  · exact h.elim
theorem js_lcmp (X : jx_X p s m args meth c R G own nm cc nL mc ms)  (d : decode cc pc = .ok (.lcmp, 1)) (hk : jx_KS p l e R s m args below meth c Φ G nL mc ms (pc + 1) (K)) : jx_KS p l e R s m args below meth c Φ G nL mc ms (pc) (jt_lcmp C J q K) := by
  intro H locs cells slots ls lv st bc bs w hS hH hl hc hs h
  unfold jt_lcmp at h
  split at h
  · exact W.lcmp X.1 X.2.1 d (hk _ _ _ _ _ _ _ _ _ _ hS hH hl hc hs h)
  · exact h.elim
theorem js_i2l (X : jx_X p s m args meth c R G own nm cc nL mc ms)  (d : decode cc pc = .ok (.i2l, 1)) (hk : jx_KS p l e R s m args below meth c Φ G nL mc ms (pc + 1) (K)) : jx_KS p l e R s m args below meth c Φ G nL mc ms (pc) (jt_i2l C J q K) := by
  intro H locs cells slots ls lv st bc bs w hS hH hl hc hs h
  unfold jt_i2l at h
  split at h
  · exact lv_i2l X.1 X.2.1 d rfl (hk _ _ _ _ _ _ _ _ _ _ hS hH hl hc hs h)
  · exact h.elim
theorem js_l2i (X : jx_X p s m args meth c R G own nm cc nL mc ms)  (d : decode cc pc = .ok (.l2i, 1)) (hk : jx_KS p l e R s m args below meth c Φ G nL mc ms (pc + 1) (K)) : jx_KS p l e R s m args below meth c Φ G nL mc ms (pc) (jt_l2i C J q K) := by
  intro H locs cells slots ls lv st bc bs w hS hH hl hc hs h
  unfold jt_l2i at h
  split at h
  · exact lv_l2i X.1 X.2.1 d rfl (hk _ _ _ _ _ _ _ _ _ _ hS hH hl hc hs h)
  · exact h.elim
theorem js_i2b (X : jx_X p s m args meth c R G own nm cc nL mc ms)  (d : decode cc pc = .ok (.i2b, 1)) (hk : jx_KS p l e R s m args below meth c Φ G nL mc ms (pc + 1) (K)) : jx_KS p l e R s m args below meth c Φ G nL mc ms (pc) (jt_i2b C J q K) := by
  intro H locs cells slots ls lv st bc bs w hS hH hl hc hs h
  unfold jt_i2b at h
  split at h
  · exact lv_i2b X.1 X.2.1 d rfl (hk _ _ _ _ _ _ _ _ _ _ hS hH hl hc hs h)
  · exact h.elim
theorem js_dup (X : jx_X p s m args meth c R G own nm cc nL mc ms)  (d : decode cc pc = .ok (.dup, 1)) (hk : jx_KS p l e R s m args below meth c Φ G nL mc ms (pc + 1) (K)) : jx_KS p l e R s m args below meth c Φ G nL mc ms (pc) (jt_dup C J q K) := by
  intro H locs cells slots ls lv st bc bs w hS hH hl hc hs h
  unfold jt_dup at h
  split at h
  · exact lv_dup X.1 X.2.1 d rfl (hk _ _ _ _ _ _ _ _ _ _ hS hH hl hc hs h)
  · exact lv_dup X.1 X.2.1 d rfl (hk _ _ _ _ _ _ _ _ _ _ hS hH hl hc hs h)
  · exact h.elim
theorem js_dup2 (X : jx_X p s m args meth c R G own nm cc nL mc ms)  (d : decode cc pc = .ok (.dup2, 1)) (hk : jx_KS p l e R s m args below meth c Φ G nL mc ms (pc + 1) (K)) : jx_KS p l e R s m args below meth c Φ G nL mc ms (pc) (jt_dup2 C J q K) := by
  intro H locs cells slots ls lv st bc bs w hS hH hl hc hs h
  unfold jt_dup2 at h
  split at h
  · exact lv_dup2_11 X.1 X.2.1 d rfl rfl (hk _ _ _ _ _ _ _ _ _ _ hS hH hl hc hs h)
  · exact h.elim
theorem js_pop (X : jx_X p s m args meth c R G own nm cc nL mc ms)  (d : decode cc pc = .ok (.pop, 1)) (hk : jx_KS p l e R s m args below meth c Φ G nL mc ms (pc + 1) (K)) : jx_KS p l e R s m args below meth c Φ G nL mc ms (pc) (jt_pop C J q K) := by
  intro H locs cells slots ls lv st bc bs w hS hH hl hc hs h
  unfold jt_pop at h
  split at h
  · exact lv_pop X.1 X.2.1 d rfl (hk _ _ _ _ _ _ _ _ _ _ hS hH hl hc hs h)
  · exact lv_pop X.1 X.2.1 d rfl (hk _ _ _ _ _ _ _ _ _ _ hS hH hl hc hs h)
  · exact h.elim
theorem js_ifeq (X : jx_X p s m args meth c R G own nm cc nL mc ms) {off : Int} {tgt b : Nat} (ht : (pc : Int) + off = (tgt : Int)) (hj : jx_KS p l e R s m args below meth c Φ G nL mc ms (tgt) (J b)) (d : decode cc pc = .ok (.ifCond .eq off, 3)) (hk : jx_KS p l e R s m args below meth c Φ G nL mc ms (pc + 3) (K)) : jx_KS p l e R s m args below meth c Φ G nL mc ms (pc) (jt_if (fun x => x = 0) (fun x => ¬ x = 0) b C J q K) := by
  intro H locs cells slots ls lv st bc bs w hS hH hl hc hs h
  unfold jt_if at h
  split at h
  · exact lv_if_eq X.1 X.2.1 d ht (fun z => hj _ _ _ _ _ _ _ _ _ _ hS hH hl hc hs (h.1 z)) (fun z => hk _ _ _ _ _ _ _ _ _ _ hS hH hl hc hs (h.2 z))
  · exact h.elim
theorem js_ifne (X : jx_X p s m args meth c R G own nm cc nL mc ms) {off : Int} {tgt b : Nat} (ht : (pc : Int) + off = (tgt : Int)) (hj : jx_KS p l e R s m args below meth c Φ G nL mc ms (tgt) (J b)) (d : decode cc pc = .ok (.ifCond .ne off, 3)) (hk : jx_KS p l e R s m args below meth c Φ G nL mc ms (pc + 3) (K)) : jx_KS p l e R s m args below meth c Φ G nL mc ms (pc) (jt_if (fun x => ¬ x = 0) (fun x => x = 0) b C J q K) := by
  intro H locs cells slots ls lv st bc bs w hS hH hl hc hs h
  unfold jt_if at h
  split at h
  · exact lv_if_ne X.1 X.2.1 d ht (fun z => hj _ _ _ _ _ _ _ _ _ _ hS hH hl hc hs (h.1 z)) (fun z => hk _ _ _ _ _ _ _ _ _ _ hS hH hl hc hs (h.2 z))
  · exact h.elim
theorem js_iflt (X : jx_X p s m args meth c R G own nm cc nL mc ms) {off : Int} {tgt b : Nat} (ht : (pc : Int) + off = (tgt : Int)) (hj : jx_KS p l e R s m args below meth c Φ G nL mc ms (tgt) (J b)) (d : decode cc pc = .ok (.ifCond .lt off, 3)) (hk : jx_KS p l e R s m args below meth c Φ G nL mc ms (pc + 3) (K)) : jx_KS p l e R s m args below meth c Φ G nL mc ms (pc) (jt_if (fun x => x < 0) (fun x => ¬ x < 0) b C J q K) := by
  intro H locs cells slots ls lv st bc bs w hS hH hl hc hs h
  unfold jt_if at h
  split at h
  · exact lv_if_lt X.1 X.2.1 d ht (fun z => hj _ _ _ _ _ _ _ _ _ _ hS hH hl hc hs (h.1 z)) (fun z => hk _ _ _ _ _ _ _ _ _ _ hS hH hl hc hs (h.2 z))
  · exact h.elim
theorem js_ifge (X : jx_X p s m args meth c R G own nm cc nL mc ms) {off : Int} {tgt b : Nat} (ht : (pc : Int) + off = (tgt : Int)) (hj : jx_KS p l e R s m args below meth c Φ G nL mc ms (tgt) (J b)) (d : decode cc pc = .ok (.ifCond .ge off, 3)) (hk : jx_KS p l e R s m args below meth c Φ G nL mc ms (pc + 3) (K)) : jx_KS p l e R s m args below meth c Φ G nL mc ms (pc) (jt_if (fun x => 0 ≤ x) (fun x => ¬ 0 ≤ x) b C J q K) := by
  intro H locs cells slots ls lv st bc bs w hS hH hl hc hs h
  unfold jt_if at h
  split at h
  · exact lv_if_ge X.1 X.2.1 d ht (fun z => hj _ _ _ _ _ _ _ _ _ _ hS hH hl hc hs (h.1 z)) (fun z => hk _ _ _ _ _ _ _ _ _ _ hS hH hl hc hs (h.2 z))
  · exact h.elim
theorem js_ifgt (X : jx_X p s m args meth c R G own nm cc nL mc ms) {off : Int} {tgt b : Nat} (ht : (pc : Int) + off = (tgt : Int)) (hj : jx_KS p l e R s m args below meth c Φ G nL mc ms (tgt) (J b)) (d : decode cc pc = .ok (.ifCond .gt off, 3)) (hk : jx_KS p l e R s m args below meth c Φ G nL mc ms (pc + 3) (K)) : jx_KS p l e R s m args below meth c Φ G nL mc ms (pc) (jt_if (fun x => 0 < x) (fun x => ¬ 0 < x) b C J q K) := by
  intro H locs cells slots ls lv st bc bs w hS hH hl hc hs h
  unfold jt_if at h
  split at h
  · exact lv_if_gt X.1 X.2.1 d ht (fun z => hj _ _ _ _ _ _ _ _ _ _ hS hH hl hc hs (h.1 z)) (fun z => hk _ _ _ _ _ _ _ _ _ _ hS hH hl hc hs (h.2 z))
  · exact h.elim
theorem js_ifle (X : jx_X p s m args meth c R G own nm cc nL mc ms) {off : Int} {tgt b : Nat} (ht : (pc : Int) + off = (tgt : Int)) (hj : jx_KS p l e R s m args below meth c Φ G nL mc ms (tgt) (J b)) (d : decode cc pc = .ok (.ifCond .le off, 3)) (hk : jx_KS p l e R s m args below meth c Φ G nL mc ms (pc + 3) (K)) : jx_KS p l e R s m args below meth c Φ G nL mc ms (pc) (jt_if (fun x => x ≤ 0) (fun x => ¬ x ≤ 0) b C J q K) := by
  intro H locs cells slots ls lv st bc bs w hS hH hl hc hs h
  unfold jt_if at h
  split at h
  · exact lv_if_le X.1 X.2.1 d ht (fun z => hj _ _ _ _ _ _ _ _ _ _ hS hH hl hc hs (h.1 z)) (fun z => hk _ _ _ _ _ _ _ _ _ _ hS hH hl hc hs (h.2 z))
  · exact h.elim
theorem js_cmpeq (X : jx_X p s m args meth c R G own nm cc nL mc ms) {off : Int} {tgt b : Nat} (ht : (pc : Int) + off = (tgt : Int)) (hj : jx_KS p l e R s m args below meth c Φ G nL mc ms (tgt) (J b)) (d : decode cc pc = .ok (.if_icmp .eq off, 3)) (hk : jx_KS p l e R s m args below meth c Φ G nL mc ms (pc + 3) (K)) : jx_KS p l e R s m args below meth c Φ G nL mc ms (pc) (jt_cmp (fun x y => x = y) (fun x y => ¬ x = y) b C J q K) := by
  intro H locs cells slots ls lv st bc bs w hS hH hl hc hs h
  unfold jt_cmp at h
  split at h
  · exact lv_icmp_eq X.1 X.2.1 d ht (fun z => hj _ _ _ _ _ _ _ _ _ _ hS hH hl hc hs (h.1 z)) (fun z => hk _ _ _ _ _ _ _ _ _ _ hS hH hl hc hs (h.2 z))
  · exact h.elim
theorem js_cmpne (X : jx_X p s m args meth c R G own nm cc nL mc ms) {off : Int} {tgt b : Nat} (ht : (pc : Int) + off = (tgt : Int)) (hj : jx_KS p l e R s m args below meth c Φ G nL mc ms (tgt) (J b)) (d : decode cc pc = .ok (.if_icmp .ne off, 3)) (hk : jx_KS p l e R s m args below meth c Φ G nL mc ms (pc + 3) (K)) : jx_KS p l e R s m args below meth c Φ G nL mc ms (pc) (jt_cmp (fun x y => ¬ x = y) (fun x y => x = y) b C J q K) := by
  intro H locs cells slots ls lv st bc bs w hS hH hl hc hs h
  unfold jt_cmp at h
  split at h
  · exact lv_icmp_ne X.1 X.2.1 d ht (fun z => hj _ _ _ _ _ _ _ _ _ _ hS hH hl hc hs (h.1 z)) (fun z => hk _ _ _ _ _ _ _ _ _ _ hS hH hl hc hs (h.2 z))
  · exact h.elim
theorem js_cmplt (X : jx_X p s m args meth c R G own nm cc nL mc ms) {off : Int} {tgt b : Nat} (ht : (pc : Int) + off = (tgt : Int)) (hj : jx_KS p l e R s m args below meth c Φ G nL mc ms (tgt) (J b)) (d : decode cc pc = .ok (.if_icmp .lt off, 3)) (hk : jx_KS p l e R s m args below meth c Φ G nL mc ms (pc + 3) (K)) : jx_KS p l e R s m args below meth c Φ G nL mc ms (pc) (jt_cmp (fun x y => x < y) (fun x y => ¬ x < y) b C J q K) := by
  intro H locs cells slots ls lv st bc bs w hS hH hl hc hs h
  unfold jt_cmp at h
  split at h
  · exact lv_icmp_lt X.1 X.2.1 d ht (fun z => hj _ _ _ _ _ _ _ _ _ _ hS hH hl hc hs (h.1 z)) (fun z => hk _ _ _ _ _ _ _ _ _ _ hS hH hl hc hs (h.2 z))
  · exact h.elim
theorem js_cmpge (X : jx_X p s m args meth c R G own nm cc nL mc ms) {off : Int} {tgt b : Nat} (ht : (pc : Int) + off = (tgt : Int)) (hj : jx_KS p l e R s m args below meth c Φ G nL mc ms (tgt) (J b)) (d : decode cc pc = .ok (.if_icmp .ge off, 3)) (hk : jx_KS p l e R s m args below meth c Φ G nL mc ms (pc + 3) (K)) : jx_KS p l e R s m args below meth c Φ G nL mc ms (pc) (jt_cmp (fun x y => y ≤ x) (fun x y => ¬ y ≤ x) b C J q K) := by
  intro H locs cells slots ls lv st bc bs w hS hH hl hc hs h
  unfold jt_cmp at h
  split at h
  · exact lv_icmp_ge X.1 X.2.1 d ht (fun z => hj _ _ _ _ _ _ _ _ _ _ hS hH hl hc hs (h.1 z)) (fun z => hk _ _ _ _ _ _ _ _ _ _ hS hH hl hc hs (h.2 z))
  · exact h.elim
theorem js_cmpgt (X : jx_X p s m args meth c R G own nm cc nL mc ms) {off : Int} {tgt b : Nat} (ht : (pc : Int) + off = (tgt : Int)) (hj : jx_KS p l e R s m args below meth c Φ G nL mc ms (tgt) (J b)) (d : decode cc pc = .ok (.if_icmp .gt off, 3)) (hk : jx_KS p l e R s m args below meth c Φ G nL mc ms (pc + 3) (K)) : jx_KS p l e R s m args below meth c Φ G nL mc ms (pc) (jt_cmp (fun x y => y < x) (fun x y => ¬ y < x) b C J q K) := by
  intro H locs cells slots ls lv st bc bs w hS hH hl hc hs h
  unfold jt_cmp at h
  split at h
  · exact lv_icmp_gt X.1 X.2.1 d ht (fun z => hj _ _ _ _ _ _ _ _ _ _ hS hH hl hc hs (h.1 z)) (fun z => hk _ _ _ _ _ _ _ _ _ _ hS hH hl hc hs (h.2 z))
  · exact h.elim
theorem js_cmple (X : jx_X p s m args meth c R G own nm cc nL mc ms) {off : Int} {tgt b : Nat} (ht : (pc : Int) + off = (tgt : Int)) (hj : jx_KS p l e R s m args below meth c Φ G nL mc ms (tgt) (J b)) (d : decode cc pc = .ok (.if_icmp .le off, 3)) (hk : jx_KS p l e R s m args below meth c Φ G nL mc ms (pc + 3) (K)) : jx_KS p l e R s m args below meth c Φ G nL mc ms (pc) (jt_cmp (fun x y => x ≤ y) (fun x y => ¬ x ≤ y) b C J q K) := by
  intro H locs cells slots ls lv st bc bs w hS hH hl hc hs h
  unfold jt_cmp at h
  split at h
  · exact lv_icmp_le X.1 X.2.1 d ht (fun z => hj _ _ _ _ _ _ _ _ _ _ hS hH hl hc hs (h.1 z)) (fun z => hk _ _ _ _ _ _ _ _ _ _ hS hH hl hc hs (h.2 z))
  · exact h.elim
theorem js_goto (X : jx_X p s m args meth c R G own nm cc nL mc ms) {off : Int} {tgt b : Nat} (ht : (pc : Int) + off = (tgt : Int)) (hj : jx_KS p l e R s m args below meth c Φ G nL mc ms (tgt) (J b)) (d : decode cc pc = .ok (.goto off, 3)) : jx_KS p l e R s m args below meth c Φ G nL mc ms (pc) (jt_go b C J q K) := fun H locs cells slots ls lv st bc bs w hS hH hl hc hs h => lv_goto X.1 X.2.1 d ht (hj _ _ _ _ _ _ _ _ _ _ hS hH hl hc hs h)
theorem js_fall {b : Nat} (hj : jx_KS p l e R s m args below meth c Φ G nL mc ms (pc) (J b)) : jx_KS p l e R s m args below meth c Φ G nL mc ms (pc) (jt_go b C J q K) := hj
theorem js_gfi (X : jx_X p s m args meth c R G own nm cc nL mc ms) {ci i index N : Nat} {D : String} {T : u_T} (hcl : vwCl[ci]? = some (D, T, N)) (hin : ∀ w ∈ u_ws D T N, w ∈ jx_wl) (hi : i < N) (hw : Cond.fieldLink own index (T i).1 (T i).2.1 (T i).2.2.1 ∈ jx_wl) (d : decode cc pc = .ok (.getfield index, 3)) (hk : jx_KS p l e R s m args below meth c Φ G nL mc ms (pc + 3) (K)) : jx_KS p l e R s m args below meth c Φ G nL mc ms (pc) (jt_gfi ci i C J q K) := by
  intro H locs cells slots ls lv st bc bs w hS hH hl hc hs h
  unfold jt_gfi at h
  split at h
  · obtain ⟨fs, x, ho, hf, h⟩ := h; exact va_get X.1 X.2.1 X.2.2.2.2.1 hin X.2.2.2.1 X.2.2.2.2.2.2.1.1 (hH.one ho rfl) 0 rfl hcl i hi (X.2.2.2.2.1 _ hw) (fun _ z => z) hf d (hk _ _ _ _ _ _ _ _ _ _ hS hH hl hc hs h)
  · exact h.elim
theorem js_gfl (X : jx_X p s m args meth c R G own nm cc nL mc ms) {ci i index N : Nat} {D : String} {T : u_T} (hcl : vwCl[ci]? = some (D, T, N)) (hin : ∀ w ∈ u_ws D T N, w ∈ jx_wl) (hi : i < N) (hw : Cond.fieldLink own index (T i).1 (T i).2.1 (T i).2.2.1 ∈ jx_wl) (d : decode cc pc = .ok (.getfield index, 3)) (hk : jx_KS p l e R s m args below meth c Φ G nL mc ms (pc + 3) (K)) : jx_KS p l e R s m args below meth c Φ G nL mc ms (pc) (jt_gfl ci i C J q K) := by
  intro H locs cells slots ls lv st bc bs w hS hH hl hc hs h
  unfold jt_gfl at h
  split at h
  · obtain ⟨fs, x, ho, hf, h⟩ := h; exact va_get X.1 X.2.1 X.2.2.2.2.1 hin X.2.2.2.1 X.2.2.2.2.2.2.1.1 (hH.one ho rfl) 0 rfl hcl i hi (X.2.2.2.2.1 _ hw) (fun _ z => z) hf d (hk _ _ _ _ _ _ _ _ _ _ hS hH hl hc hs h)
  · exact h.elim
theorem js_gfr (X : jx_X p s m args meth c R G own nm cc nL mc ms) {ci i index N : Nat} {D : String} {T : u_T} (hcl : vwCl[ci]? = some (D, T, N)) (hin : ∀ w ∈ u_ws D T N, w ∈ jx_wl) (hi : i < N) (hw : Cond.fieldLink own index (T i).1 (T i).2.1 (T i).2.2.1 ∈ jx_wl) (d : decode cc pc = .ok (.getfield index, 3)) (hk : jx_KS p l e R s m args below meth c Φ G nL mc ms (pc + 3) (K)) : jx_KS p l e R s m args below meth c Φ G nL mc ms (pc) (jt_gfr ci i C J q K) := by
  intro H locs cells slots ls lv st bc bs w hS hH hl hc hs h
  unfold jt_gfr at h
  split at h
  · obtain ⟨fs, x, ho, hf, h⟩ := h; exact va_get X.1 X.2.1 X.2.2.2.2.1 hin X.2.2.2.1 X.2.2.2.2.2.2.1.1 (hH.one ho rfl) 0 rfl hcl i hi (X.2.2.2.2.1 _ hw) (fun _ z => z) hf d (hk _ _ _ _ _ _ _ _ _ _ hS hH hl hc hs h)
  · exact h.elim
theorem js_iald (X : jx_X p s m args meth c R G own nm cc nL mc ms)  (d : decode cc pc = .ok (.iaload, 1)) (hk : jx_KS p l e R s m args below meth c Φ G nL mc ms (pc + 1) (K)) : jx_KS p l e R s m args below meth c Φ G nL mc ms (pc) (jt_iald C J q K) := by
  intro H locs cells slots ls lv st bc bs w hS hH hl hc hs h
  unfold jt_iald at h
  split at h
  · obtain ⟨n, f, ho, hi, h⟩ := h; exact va_iald X.1 X.2.1 X.2.2.2.2.2.2.1.1 (hH.one ho rfl) 0 0 rfl rfl hi d (hk _ _ _ _ _ _ _ _ _ _ hS hH hl hc hs h)
  · exact h.elim
theorem js_bald (X : jx_X p s m args meth c R G own nm cc nL mc ms)  (d : decode cc pc = .ok (.baload, 1)) (hk : jx_KS p l e R s m args below meth c Φ G nL mc ms (pc + 1) (K)) : jx_KS p l e R s m args below meth c Φ G nL mc ms (pc) (jt_bald C J q K) := by
  intro H locs cells slots ls lv st bc bs w hS hH hl hc hs h
  unfold jt_bald at h
  split at h
  · obtain ⟨n, f, ho, hi, h⟩ := h; exact va_bald X.1 X.2.1 X.2.2.2.2.2.2.1.1 (hH.one ho rfl) 0 1 rfl rfl hi d (hk _ _ _ _ _ _ _ _ _ _ hS hH hl hc hs h)
  · exact h.elim
theorem jx_ro_at {w : jx_W} {H : Heap} {locs : List Loc} {a n : Nat} {f : Nat → Int32} (hF : jx_F G s) (hH : jx_H G s w H) (hS : va_S (jx_A G) s.heap H locs) (ho : jx_ro w a n f) : va_T .int a n (fun j => .int (f j)) (jx_A G) s s.heap := by
  refine (hH.2.2.1 a n f ho).kept (fun q _ hq => ?_)
  have h0 : q < s.heap.size := Nat.lt_of_lt_of_le (Nat.not_le.mp hq) hF.2.1
  exact (hS.2.1 q h0 hq).symm
theorem js_rald (X : jx_X p s m args meth c R G own nm cc nL mc ms)  (d : decode cc pc = .ok (.iaload, 1)) (hk : jx_KS p l e R s m args below meth c Φ G nL mc ms (pc + 1) (K)) : jx_KS p l e R s m args below meth c Φ G nL mc ms (pc) (jt_rald C J q K) := by
  intro H locs cells slots ls lv st bc bs w hS hH hl hc hs h
  unfold jt_rald at h
  split at h
  · obtain ⟨n, f, ho, hi, h⟩ := h; exact va_ti X.1 X.2.1 (jx_ro_at X.2.2.2.2.2.2.1 hH hS ho) hS hi rfl d (hk _ _ _ _ _ _ _ _ _ _ hS hH hl hc hs h)
  · exact h.elim
theorem js_rlen (X : jx_X p s m args meth c R G own nm cc nL mc ms)  (d : decode cc pc = .ok (.arraylength, 1)) (hk : jx_KS p l e R s m args below meth c Φ G nL mc ms (pc + 1) (K)) : jx_KS p l e R s m args below meth c Φ G nL mc ms (pc) (jt_rlen C J q K) := by
  intro H locs cells slots ls lv st bc bs w hS hH hl hc hs h
  unfold jt_rlen at h
  split at h
  · obtain ⟨n, f, ho, h⟩ := h; exact va_tlen X.1 X.2.1 (jx_ro_at X.2.2.2.2.2.2.1 hH hS ho) hS rfl d (hk _ _ _ _ _ _ _ _ _ _ hS hH hl hc hs h)
  · exact h.elim
theorem js_ilen (X : jx_X p s m args meth c R G own nm cc nL mc ms)  (d : decode cc pc = .ok (.arraylength, 1)) (hk : jx_KS p l e R s m args below meth c Φ G nL mc ms (pc + 1) (K)) : jx_KS p l e R s m args below meth c Φ G nL mc ms (pc) (jt_ilen C J q K) := by
  intro H locs cells slots ls lv st bc bs w hS hH hl hc hs h
  unfold jt_ilen at h
  split at h
  · obtain ⟨n, f, ho, h⟩ := h; exact va_alen X.1 X.2.1 X.2.2.2.2.2.2.1.1 (hH.one ho rfl) 0 0 rfl rfl rfl d (hk _ _ _ _ _ _ _ _ _ _ hS hH hl hc hs h)
  · exact h.elim
theorem js_blen (X : jx_X p s m args meth c R G own nm cc nL mc ms)  (d : decode cc pc = .ok (.arraylength, 1)) (hk : jx_KS p l e R s m args below meth c Φ G nL mc ms (pc + 1) (K)) : jx_KS p l e R s m args below meth c Φ G nL mc ms (pc) (jt_blen C J q K) := by
  intro H locs cells slots ls lv st bc bs w hS hH hl hc hs h
  unfold jt_blen at h
  split at h
  · obtain ⟨n, f, ho, h⟩ := h; exact va_alen X.1 X.2.1 X.2.2.2.2.2.2.1.1 (hH.one ho rfl) 0 1 rfl rfl rfl d (hk _ _ _ _ _ _ _ _ _ _ hS hH hl hc hs h)
  · exact h.elim
theorem js_aald (X : jx_X p s m args meth c R G own nm cc nL mc ms) {ci t0 : Nat} (ht : (jx_tys G)[t0]? = some (G.2.1 (.object (jx_nm ci)), .object (jx_nm ci))) (d : decode cc pc = .ok (.aaload, 1)) (hk : jx_KS p l e R s m args below meth c Φ G nL mc ms (pc + 1) (K)) : jx_KS p l e R s m args below meth c Φ G nL mc ms (pc) (jt_aald ci C J q K) := by
  intro H locs cells slots ls lv st bc bs w hS hH hl hc hs h
  unfold jt_aald at h
  split at h
  · obtain ⟨n, f, b, ho, hi, hb, h⟩ := h; exact va_aldq X.1 X.2.1 X.2.2.2.2.2.2.1.1 (hH.one ho rfl) 0 t0 rfl ht hi d (by rw [hb]; exact (hk _ _ _ _ _ _ _ _ _ _ hS hH hl hc hs h))
  · exact h.elim
theorem js_gs (X : jx_X p s m args meth c R G own nm cc nL mc ms) {i index : Nat} {Cn n0 d0 : String} (hi : jx_sts[i]? = some (Cn, n0, d0)) (hw : Cond.fieldLink own index Cn n0 d0 ∈ jx_wl) (d : decode cc pc = .ok (.getstatic index, 3)) (hk : jx_KS p l e R s m args below meth c Φ G nL mc ms (pc + 3) (K)) : jx_KS p l e R s m args below meth c Φ G nL mc ms (pc) (jt_gs i C J q K) := by
  intro H locs cells slots ls lv st bc bs w hS hH hl hc hs h
  unfold jt_gs at h
  rw [hH.2.1] at h
  exact va_gets X.1 X.2.1 (X.2.2.2.2.2.2.1.2.2.1 i _ hi) hS X.2.2.2.1 (X.2.2.2.2.1 _ hw) (fun _ z => z) d (hk _ _ _ _ _ _ _ _ _ _ hS hH hl hc hs h)
theorem js_oi (X : jx_X p s m args meth c R G own nm cc nL mc ms) {idx : Nat} (h1 : Cond.methodLink own idx Lib.objectInit ∈ jx_wl) (h2 : Cond.instanceMethod Lib.objectInit ∈ jx_wl) (h3 : Cond.code Lib.objectInit ⟨#[0xb1]⟩ 1 none ∈ jx_wl) (hfr : 1 ≤ R.frames) (hlo : 12 ≤ R.locals) (d : decode cc pc = .ok (.invokespecial idx, 3)) (hk : jx_KS p l e R s m args below meth c Φ G nL mc ms (pc + 3) (K)) : jx_KS p l e R s m args below meth c Φ G nL mc ms (pc) (jt_oi C J q K) := by
  intro H locs cells slots ls lv st bc bs w hS hH hl hc hs h
  unfold jt_oi at h
  split at h
  · exact W.objInit X.1 X.2.1 X.2.2.2.1 (X.2.2.2.2.1 _ h1) (X.2.2.2.2.1 _ h2) (X.2.2.2.2.1 _ h3) rfl (hl.1.trans X.2.2.1.symm) rfl d hfr (by show 2 * 0 + 0 + 12 ≤ _; omega) (hk _ _ _ _ _ _ _ _ _ _ hS hH hl hc hs h)
  · exact h.elim
end JXR
end
section
section JXW
variable {p : Program} {l : Launch} {e : Env} {R : Room} {s : State} {m : MethodId} {args : Array Value} {below : List Frame} {meth : Method} {c : Code} {Φ : State → Prop} {G : jx_G} {own nm : String} {cc : ByteArray} {nL mc ms pc : Nat} {C : jx_C} {J : jx_J} {q : jx_Q} {K : jx_K} {H : Heap} {locs : List Loc} {cells slots : Nat} {ls : Array Slot} {r : List Value} {w : jx_W}
theorem jx_putW (X : jx_X p s m args meth c R G own nm cc nL mc ms) {ci i index N a : Nat} {D : String} {T : u_T} (hcl : vwCl[ci]? = some (D, T, N)) (hin : ∀ w ∈ u_ws D T N, w ∈ jx_wl) (ty0 : Nat → FieldType) (hty : ∀ k, k < N → parseFieldDescriptor (T k).2.2.1 = some (ty0 k)) (hnm : ∀ a, a < N → ∀ b, b < N → a ≠ b → (T a).2.1 ≠ (T b).2.1) (hi : i < N) (hw : Cond.fieldLink own index (T i).1 (T i).2.1 (T i).2.2.1 ∈ jx_wl) (hfin : (T i).2.2.2 = false) {ty : FieldType} {v : Value} (hd : parseFieldDescriptor (T i).2.2.1 = some ty) (hn : narrow ty v = v) (hfit : fits ty v = true) {fs : List Value} (ho : jx_ob w a ci fs) (hlen : i < fs.length) (d : decode cc pc = .ok (.putfield index, 3)) (hS : va_S (jx_A G) s.heap H locs) (hH : jx_H G s w H)
    (kk : ∀ (H1 : Heap) (locs1 : List Loc), va_S (jx_A G) s.heap H1 locs1 → jx_H G s (jx_uob w a ci (fs.set i v)) H1 → W p l e R s m args below meth c H1 locs1 cells slots Φ (F0 m (pc + 3) ls r)) : W p l e R s m args below meth c H locs cells slots Φ (F0 m pc ls (v :: .ref a :: r)) := by
  have hK := X.2.2.2.2.2.2.1.1
  have hts := X.2.2.2.2.1
  have hap := va_apart (own := own) hts hin ty0 hty hnm hK hcl
  obtain ⟨hA, r0, h1, cell, q1, q2, q3, q4⟩ := hH.2.2.2 a _ ho rfl
  have hr : r0 = (D, T, N) := Option.some.inj (h1.symm.trans hcl)
  subst hr
  obtain ⟨hSl, hfc, kC, hkC, hkind⟩ := hK.1 ci _ hcl
  obtain ⟨cf, kf, fi, f, hi', hsl⟩ := hSl i hi
  have hlay := hts _ (hin _ (u_in_lay hi))
  unfold u_lay at hlay
  rw [if_neg (by rw [hfin]; decide)] at hlay
  have hst := (u_facts hfc hkC (u_lays hts hin hi) hi').1
  have h6 := u_store hfc hkC hkind hlay hi' hd hn hfit
  refine W.putK X.1 X.2.1 (f := f) ⟨X.2.2.2.1, hts _ hw, ⟨_, _, _, hi'⟩, hst⟩ (by rw [q2]; exact h6) q1 q3 (by rw [hsl]; exact k2_hasslot (q4 i hi)) rfl rfl d fun H' e1 e2 e3 => ?_
  rw [hsl] at e1 ⊢
  exact kk H' _ (hS.put e2 e3 hA) (hH.put hA rfl e2 e3 ⟨_, hcl, t_OB.to (V := updV (vp_V fs) i v) ⟨_, e1, q2, q3, t_set q4 hap hi v⟩ (fun j _ => vp_updV_set hlen v j)⟩)
theorem jx_putFW (X : jx_X p s m args meth c R G own nm cc nL mc ms) {ci i index N a : Nat} {D : String} {T : u_T} (hcl : vwCl[ci]? = some (D, T, N)) (hin : ∀ w ∈ u_ws D T N, w ∈ jx_wl) (ty0 : Nat → FieldType) (hty : ∀ k, k < N → parseFieldDescriptor (T k).2.2.1 = some (ty0 k)) (hnm : ∀ a, a < N → ∀ b, b < N → a ≠ b → (T a).2.1 ≠ (T b).2.1) (hi : i < N) (hw : Cond.fieldLink own index (T i).1 (T i).2.1 (T i).2.2.1 ∈ jx_wl) (hfin : (T i).2.2.2 = true) (hini : meth.name = "<init>") (hdecl : (T i).1 = own) {ty : FieldType} {v : Value} (hd : parseFieldDescriptor (T i).2.2.1 = some ty) (hn : narrow ty v = v) (hfit : fits ty v = true) {fs : List Value} (ho : jx_ob w a ci fs) (hlen : i < fs.length) (d : decode cc pc = .ok (.putfield index, 3)) (hS : va_S (jx_A G) s.heap H locs) (hH : jx_H G s w H)
    (kk : ∀ (H1 : Heap) (locs1 : List Loc), va_S (jx_A G) s.heap H1 locs1 → jx_H G s (jx_uob w a ci (fs.set i v)) H1 → W p l e R s m args below meth c H1 locs1 cells slots Φ (F0 m (pc + 3) ls r)) : W p l e R s m args below meth c H locs cells slots Φ (F0 m pc ls (v :: .ref a :: r)) := by
  have hK := X.2.2.2.2.2.2.1.1
  have hts := X.2.2.2.2.1
  have hap := va_apart (own := own) hts hin ty0 hty hnm hK hcl
  obtain ⟨hA, r0, h1, cell, q1, q2, q3, q4⟩ := hH.2.2.2 a _ ho rfl
  have hr : r0 = (D, T, N) := Option.some.inj (h1.symm.trans hcl)
  subst hr
  obtain ⟨hSl, hfc, kC, hkC, hkind⟩ := hK.1 ci _ hcl
  obtain ⟨cf, kf, fi, f, hi', hsl⟩ := hSl i hi
  have hlay := hts _ (hin _ (u_in_lay hi))
  unfold u_lay at hlay
  rw [if_pos hfin] at hlay
  have hst := (u_facts hfc hkC (u_lays hts hin hi) hi').1
  have hcf : m.cls = cf := by
    obtain ⟨_, _, c', _, _, _, -, -, hf', -, -, -, hown2, -⟩ := Cond.laysFinal_spec hlay
    have e1 : c' = cf := by have := hi'.symm.trans hf'; simp at this; exact this.1.symm
    rw [hdecl] at hown2
    rw [← e1]; exact Option.some.inj (X.2.2.2.1.symm.trans hown2)
  have h6 := u_fits hfc hkC hkind (Or.inr hlay) hi' hd hn hfit
  refine W.putFinK X.1 X.2.1 X.2.2.2.1 (hts _ hw) hi' hst hcf hini (by rw [q2]; exact h6) q1 q3 (by rw [hsl]; exact k2_hasslot (q4 i hi)) rfl rfl d fun H' e1 e2 e3 => ?_
  rw [hsl] at e1 ⊢
  exact kk H' _ (hS.put e2 e3 hA) (hH.put hA rfl e2 e3 ⟨_, hcl, t_OB.to (V := updV (vp_V fs) i v) ⟨_, e1, q2, q3, t_set q4 hap hi v⟩ (fun j _ => vp_updV_set hlen v j)⟩)
end JXW
section JXR
variable {p : Program} {l : Launch} {e : Env} {R : Room} {s : State} {m : MethodId} {args : Array Value} {below : List Frame} {meth : Method} {c : Code} {Φ : State → Prop} {G : jx_G} {own nm : String} {cc : ByteArray} {nL mc ms pc : Nat} {C : jx_C} {J : jx_J} {q : jx_Q} {K : jx_K}
theorem js_pfi (X : jx_X p s m args meth c R G own nm cc nL mc ms) {ci i index N : Nat} {D : String} {T : u_T} (hcl : vwCl[ci]? = some (D, T, N)) (hin : ∀ w ∈ u_ws D T N, w ∈ jx_wl) (ty0 : Nat → FieldType) (hty : ∀ k, k < N → parseFieldDescriptor (T k).2.2.1 = some (ty0 k)) (hnm : ∀ a, a < N → ∀ b, b < N → a ≠ b → (T a).2.1 ≠ (T b).2.1) (hi : i < N) (hw : Cond.fieldLink own index (T i).1 (T i).2.1 (T i).2.2.1 ∈ jx_wl) (hfin : (T i).2.2.2 = false) (hd : parseFieldDescriptor (T i).2.2.1 = some .int) (d : decode cc pc = .ok (.putfield index, 3)) (hk : jx_KS p l e R s m args below meth c Φ G nL mc ms (pc + 3) (K)) : jx_KS p l e R s m args below meth c Φ G nL mc ms (pc) (jt_pfi ci i C J q K) := by
  intro H locs cells slots ls lv st bc bs w hS hH hl hc hs h
  unfold jt_pfi at h
  split at h
  · obtain ⟨fs, ho, hlen, h⟩ := h
    exact jx_putW X hcl hin ty0 hty hnm hi hw hfin hd rfl rfl ho hlen d hS hH (fun H1 locs1 hS hH => hk _ _ _ _ _ _ _ _ _ _ hS hH hl hc hs h)
  · exact h.elim
theorem js_pfl (X : jx_X p s m args meth c R G own nm cc nL mc ms) {ci i index N : Nat} {D : String} {T : u_T} (hcl : vwCl[ci]? = some (D, T, N)) (hin : ∀ w ∈ u_ws D T N, w ∈ jx_wl) (ty0 : Nat → FieldType) (hty : ∀ k, k < N → parseFieldDescriptor (T k).2.2.1 = some (ty0 k)) (hnm : ∀ a, a < N → ∀ b, b < N → a ≠ b → (T a).2.1 ≠ (T b).2.1) (hi : i < N) (hw : Cond.fieldLink own index (T i).1 (T i).2.1 (T i).2.2.1 ∈ jx_wl) (hfin : (T i).2.2.2 = false) (hd : parseFieldDescriptor (T i).2.2.1 = some .long) (d : decode cc pc = .ok (.putfield index, 3)) (hk : jx_KS p l e R s m args below meth c Φ G nL mc ms (pc + 3) (K)) : jx_KS p l e R s m args below meth c Φ G nL mc ms (pc) (jt_pfl ci i C J q K) := by
  intro H locs cells slots ls lv st bc bs w hS hH hl hc hs h
  unfold jt_pfl at h
  split at h
  · obtain ⟨fs, ho, hlen, h⟩ := h
    exact jx_putW X hcl hin ty0 hty hnm hi hw hfin hd rfl rfl ho hlen d hS hH (fun H1 locs1 hS hH => hk _ _ _ _ _ _ _ _ _ _ hS hH hl hc hs h)
  · exact h.elim
theorem js_pfz (X : jx_X p s m args meth c R G own nm cc nL mc ms) {ci i index N : Nat} {D : String} {T : u_T} (hcl : vwCl[ci]? = some (D, T, N)) (hin : ∀ w ∈ u_ws D T N, w ∈ jx_wl) (ty0 : Nat → FieldType) (hty : ∀ k, k < N → parseFieldDescriptor (T k).2.2.1 = some (ty0 k)) (hnm : ∀ a, a < N → ∀ b, b < N → a ≠ b → (T a).2.1 ≠ (T b).2.1) (hi : i < N) (hw : Cond.fieldLink own index (T i).1 (T i).2.1 (T i).2.2.1 ∈ jx_wl) (hfin : (T i).2.2.2 = false) (hd : parseFieldDescriptor (T i).2.2.1 = some .boolean) (d : decode cc pc = .ok (.putfield index, 3)) (hk : jx_KS p l e R s m args below meth c Φ G nL mc ms (pc + 3) (K)) : jx_KS p l e R s m args below meth c Φ G nL mc ms (pc) (jt_pfz ci i C J q K) := by
  intro H locs cells slots ls lv st bc bs w hS hH hl hc hs h
  unfold jt_pfz at h
  split at h
  · obtain ⟨fs, ho, hlen, hx, h⟩ := h
    rcases hx with rfl | rfl
    · exact jx_putW X hcl hin ty0 hty hnm hi hw hfin hd (by decide +kernel) (by decide +kernel) ho hlen d hS hH (fun H1 locs1 hS hH => hk _ _ _ _ _ _ _ _ _ _ hS hH hl hc hs h)
    · exact jx_putW X hcl hin ty0 hty hnm hi hw hfin hd (by decide +kernel) (by decide +kernel) ho hlen d hS hH (fun H1 locs1 hS hH => hk _ _ _ _ _ _ _ _ _ _ hS hH hl hc hs h)
  · exact h.elim
theorem js_pfr (X : jx_X p s m args meth c R G own nm cc nL mc ms) {ci i index N : Nat} {D : String} {T : u_T} (hcl : vwCl[ci]? = some (D, T, N)) (hin : ∀ w ∈ u_ws D T N, w ∈ jx_wl) (ty0 : Nat → FieldType) (hty : ∀ k, k < N → parseFieldDescriptor (T k).2.2.1 = some (ty0 k)) (hnm : ∀ a, a < N → ∀ b, b < N → a ≠ b → (T a).2.1 ≠ (T b).2.1) (hi : i < N) (hw : Cond.fieldLink own index (T i).1 (T i).2.1 (T i).2.2.1 ∈ jx_wl) (hfin : (T i).2.2.2 = false) (hd : (∃ n, parseFieldDescriptor (T i).2.2.1 = some (.object n)) ∨ ∃ t, parseFieldDescriptor (T i).2.2.1 = some (.array t)) (d : decode cc pc = .ok (.putfield index, 3)) (hk : jx_KS p l e R s m args below meth c Φ G nL mc ms (pc + 3) (K)) : jx_KS p l e R s m args below meth c Φ G nL mc ms (pc) (jt_pfr ci i C J q K) := by
  intro H locs cells slots ls lv st bc bs w hS hH hl hc hs h
  unfold jt_pfr at h
  split at h
  · obtain ⟨fs, ho, hlen, h⟩ := h
    rcases hd with ⟨nn, hd⟩ | ⟨tt, hd⟩
    · exact jx_putW X hcl hin ty0 hty hnm hi hw hfin hd rfl rfl ho hlen d hS hH (fun H1 locs1 hS hH => hk _ _ _ _ _ _ _ _ _ _ hS hH hl hc hs h)
    · exact jx_putW X hcl hin ty0 hty hnm hi hw hfin hd rfl rfl ho hlen d hS hH (fun H1 locs1 hS hH => hk _ _ _ _ _ _ _ _ _ _ hS hH hl hc hs h)
  · exact h.elim
theorem js_pfFi (X : jx_X p s m args meth c R G own nm cc nL mc ms) {ci i index N : Nat} {D : String} {T : u_T} (hcl : vwCl[ci]? = some (D, T, N)) (hin : ∀ w ∈ u_ws D T N, w ∈ jx_wl) (ty0 : Nat → FieldType) (hty : ∀ k, k < N → parseFieldDescriptor (T k).2.2.1 = some (ty0 k)) (hnm : ∀ a, a < N → ∀ b, b < N → a ≠ b → (T a).2.1 ≠ (T b).2.1) (hi : i < N) (hw : Cond.fieldLink own index (T i).1 (T i).2.1 (T i).2.2.1 ∈ jx_wl) (hfin : (T i).2.2.2 = true) (hini : nm = "<init>") (hdecl : (T i).1 = own) (hd : parseFieldDescriptor (T i).2.2.1 = some .int) (d : decode cc pc = .ok (.putfield index, 3)) (hk : jx_KS p l e R s m args below meth c Φ G nL mc ms (pc + 3) (K)) : jx_KS p l e R s m args below meth c Φ G nL mc ms (pc) (jt_pfi ci i C J q K) := by
  intro H locs cells slots ls lv st bc bs w hS hH hl hc hs h
  unfold jt_pfi at h
  split at h
  · obtain ⟨fs, ho, hlen, h⟩ := h
    exact jx_putFW X hcl hin ty0 hty hnm hi hw hfin (X.2.2.2.2.2.1.trans hini) hdecl hd rfl rfl ho hlen d hS hH (fun H1 locs1 hS hH => hk _ _ _ _ _ _ _ _ _ _ hS hH hl hc hs h)
  · exact h.elim
theorem js_pfFr (X : jx_X p s m args meth c R G own nm cc nL mc ms) {ci i index N : Nat} {D : String} {T : u_T} (hcl : vwCl[ci]? = some (D, T, N)) (hin : ∀ w ∈ u_ws D T N, w ∈ jx_wl) (ty0 : Nat → FieldType) (hty : ∀ k, k < N → parseFieldDescriptor (T k).2.2.1 = some (ty0 k)) (hnm : ∀ a, a < N → ∀ b, b < N → a ≠ b → (T a).2.1 ≠ (T b).2.1) (hi : i < N) (hw : Cond.fieldLink own index (T i).1 (T i).2.1 (T i).2.2.1 ∈ jx_wl) (hfin : (T i).2.2.2 = true) (hini : nm = "<init>") (hdecl : (T i).1 = own) (hd : (∃ n, parseFieldDescriptor (T i).2.2.1 = some (.object n)) ∨ ∃ t, parseFieldDescriptor (T i).2.2.1 = some (.array t)) (d : decode cc pc = .ok (.putfield index, 3)) (hk : jx_KS p l e R s m args below meth c Φ G nL mc ms (pc + 3) (K)) : jx_KS p l e R s m args below meth c Φ G nL mc ms (pc) (jt_pfr ci i C J q K) := by
  intro H locs cells slots ls lv st bc bs w hS hH hl hc hs h
  unfold jt_pfr at h
  split at h
  · obtain ⟨fs, ho, hlen, h⟩ := h
    rcases hd with ⟨nn, hd⟩ | ⟨tt, hd⟩
    · exact jx_putFW X hcl hin ty0 hty hnm hi hw hfin (X.2.2.2.2.2.1.trans hini) hdecl hd rfl rfl ho hlen d hS hH (fun H1 locs1 hS hH => hk _ _ _ _ _ _ _ _ _ _ hS hH hl hc hs h)
    · exact jx_putFW X hcl hin ty0 hty hnm hi hw hfin (X.2.2.2.2.2.1.trans hini) hdecl hd rfl rfl ho hlen d hS hH (fun H1 locs1 hS hH => hk _ _ _ _ _ _ _ _ _ _ hS hH hl hc hs h)
  · exact h.elim
theorem js_iast (X : jx_X p s m args meth c R G own nm cc nL mc ms)  (d : decode cc pc = .ok (.iastore, 1)) (hk : jx_KS p l e R s m args below meth c Φ G nL mc ms (pc + 1) (K)) : jx_KS p l e R s m args below meth c Φ G nL mc ms (pc) (jt_iast C J q K) := by
  intro H locs cells slots ls lv st bc bs w hS hH hl hc hs h
  unfold jt_iast at h
  split at h
  · obtain ⟨n, f, ho, hi, h⟩ := h
    rename_i x i a r
    obtain ⟨hA, hat⟩ := hH.2.2.2 a _ ho rfl
    refine W.iast X.1 X.2.1 hat ((X.2.2.2.2.2.2.1.1.2 0 _ rfl).1 n (fun j => .int (f j))) (fun q => by cases q) (by show ¬ (i < 0 ∨ (arrV _ _ _).slots.size ≤ _); rw [arrV_size]; exact hi) rfl rfl d fun H1 e1 z oq => ?_
    refine hk _ _ _ _ _ _ _ _ _ _ (hS.put z oq hA) (hH.put hA rfl z oq ?_) hl hc hs h
    show H1[a]? = some (vp_cell _ _)
    rw [e1]
    show some ((vp_cell _ _).setSlot _ _) = _
    rw [vp_cell_i, vp_cell_i, arrV_store]
    congr 2
    funext k
    by_cases hq : k = i.toNatClampNeg
    · subst hq
      simp [updV, upd, vp_nar]
      try rfl
    · simp [updV, upd, hq]
  · exact h.elim
theorem js_bast (X : jx_X p s m args meth c R G own nm cc nL mc ms)  (d : decode cc pc = .ok (.bastore, 1)) (hk : jx_KS p l e R s m args below meth c Φ G nL mc ms (pc + 1) (K)) : jx_KS p l e R s m args below meth c Φ G nL mc ms (pc) (jt_bast C J q K) := by
  intro H locs cells slots ls lv st bc bs w hS hH hl hc hs h
  unfold jt_bast at h
  split at h
  · obtain ⟨n, f, ho, hi, h⟩ := h
    rename_i x i a r
    obtain ⟨hA, hat⟩ := hH.2.2.2 a _ ho rfl
    refine W.bast X.1 X.2.1 hat ((X.2.2.2.2.2.2.1.1.2 1 _ rfl).1 n (fun j => .int (f j))) (fun q => by cases q) (by show ¬ (i < 0 ∨ (arrV _ _ _).slots.size ≤ _); rw [arrV_size]; exact hi) rfl rfl d fun H1 e1 z oq => ?_
    refine hk _ _ _ _ _ _ _ _ _ _ (hS.put z oq hA) (hH.put hA rfl z oq ?_) hl hc hs h
    show H1[a]? = some (vp_cell _ _)
    rw [e1]
    show some ((vp_cell _ _).setSlot _ _) = _
    rw [vp_cell_i, vp_cell_i, arrV_store]
    congr 2
    funext k
    by_cases hq : k = i.toNatClampNeg
    · subst hq
      simp [updV, upd, vp_nar]
      try rfl
    · simp [updV, upd, hq]
  · exact h.elim
theorem js_aast (X : jx_X p s m args meth c R G own nm cc nL mc ms) {ci t0 N : Nat} {D : String} {T : u_T} (hcl : vwCl[ci]? = some (D, T, N)) (ht : (jx_tys G)[t0]? = some (G.2.1 (.object (jx_nm ci)), .object (jx_nm ci))) (d : decode cc pc = .ok (.aastore, 1)) (hk : jx_KS p l e R s m args below meth c Φ G nL mc ms (pc + 1) (K)) : jx_KS p l e R s m args below meth c Φ G nL mc ms (pc) (jt_aast ci C J q K) := by
  intro H locs cells slots ls lv st bc bs w hS hH hl hc hs h
  unfold jt_aast at h
  split at h
  · obtain ⟨n, f, vs, ho, hv, hi, h⟩ := h
    rename_i v i a r
    obtain ⟨hA, hat⟩ := hH.2.2.2 a _ ho rfl
    have hlt : i.toNatClampNeg < n := Nat.not_le.mp fun q => hi (Or.inr q)
    have h0 : ¬ i < 0 := fun q => hi (Or.inl q)
    obtain ⟨-, r', hr', cellV, g1, g2, g3, -⟩ := hH.2.2.2 v _ hv rfl
    have hcls := (X.2.2.2.2.2.2.1.1.1 ci _ hcl).2
    obtain ⟨kA, comp, k1, k2, k3, -⟩ := (X.2.2.2.2.2.2.1.1.2 t0 _ ht).2
    have hnmD : jx_nm ci = D := by unfold jx_nm; rw [hcl]
    have hcomp : comp = G.1.1 ci := Option.some.inj (k3.symm.trans (by rw [hnmD]; exact hcls.1))
    subst hcomp
    obtain ⟨kC, hkC, -⟩ := hcls.2
    refine W.aast X.1 X.2.1 hat (fun q h => by cases h) (fun h => by cases h) k1 k2 rfl hkC ⟨h0, by show _ < (arrV _ _ _).slots.size; rw [arrV_size]; exact hlt⟩ g1 (fun q h => by rw [g3] at h; cases h) (by rw [g2]; exact hkC) (by rw [g2]; exact va_assign hcls) rfl rfl d fun H1 e1 z oq => ?_
    refine hk _ _ _ _ _ _ _ _ _ _ (hS.put z oq hA) (hH.put hA rfl z oq ?_) hl hc hs h
    show H1[a]? = some (vp_cell _ _)
    rw [e1]
    rw [vp_cell_q]
    show some ((arrV _ _ _).setSlot _ _) = _
    rw [arrV_store]
    show some (arrV (G.2.1 (.object (jx_nm ci))) n _) = some (arrV (G.2.1 (.object (jx_nm ci))) n (fun j => va_rf (va_up f i.toNatClampNeg (some v) j)))
    congr 2
    funext k
    by_cases hq : k = i.toNatClampNeg
    · subst hq
      simp [updV, va_up, va_rf]
    · simp [updV, va_up, hq]
  · exact h.elim
end JXR
end
section
section JXR
variable {p : Program} {l : Launch} {e : Env} {R : Room} {s : State} {m : MethodId} {args : Array Value} {below : List Frame} {meth : Method} {c : Code} {Φ : State → Prop} {G : jx_G} {own nm : String} {cc : ByteArray} {nL mc ms pc : Nat} {C : jx_C} {J : jx_J} {q : jx_Q} {K : jx_K}
theorem jx_A_in {H : Heap} {locs : List Loc} (hF : jx_F G s) (hS : va_S (jx_A G) s.heap H locs) : jx_A G H.size := Nat.le_trans hF.2.1 hS.1
theorem jx_S_new {H H1 : Heap} {locs : List Loc} (hS : va_S (jx_A G) s.heap H locs) (z : H1.size = H.size + 1) (oq : ∀ q : Nat, q < H.size → H1[q]? = H[q]?) : va_S (jx_A G) s.heap H1 locs := ⟨Nat.le_trans hS.1 (by omega), fun x h1 h2 => (oq x (Nat.lt_of_lt_of_le h1 hS.1)).trans (hS.2.1 x h1 h2), hS.2.2⟩
theorem js_new (X : jx_X p s m args meth c R G own nm cc nL mc ms) {ci index N : Nat} {D : String} {T : u_T} (hcl : vwCl[ci]? = some (D, T, N)) (hin : ∀ w ∈ u_ws D T N, w ∈ jx_wl) (ty : Nat → FieldType) (hty : ∀ k, k < N → parseFieldDescriptor (T k).2.2.1 = some (ty k)) {fs : List Value} (hfs : ∀ j, j < N → defaultValue (ty j) = vp_V fs j) (h1 : Cond.classLink own index D ∈ jx_wl) (h2 : Cond.instantiable D N ∈ jx_wl) (h3 : Cond.initialized D ∈ jx_wl) (d : decode cc pc = .ok (.new index, 3)) (hk : jx_KS p l e R s m args below meth c Φ G nL mc ms (pc + 3) (K)) : jx_KS p l e R s m args below meth c Φ G nL mc ms (pc) (jt_new ci N fs C J q K) := by
  intro H locs cells slots ls lv st bc bs w hS hH hl hc hs h
  obtain ⟨hb1, hb2, h⟩ := h
  have hKn := X.2.2.2.2.2.2.1.1.1 ci _ hcl
  refine W.newcK X.1 X.2.1 X.2.2.2.1 (X.2.2.2.2.1 _ h1) (X.2.2.2.2.1 _ h2) (X.2.2.2.2.1 _ h3) rfl d (by rw [X.2.2.2.2.2.2.2.1]; omega) (by rw [X.2.2.2.2.2.2.2.2]; omega) hKn.2.1 rfl fun H1 kC hkC e1 z1 o1 => ?_
  have hz : H.size = w.1 := hH.1
  rw [← hz] at h
  refine hk _ _ _ _ _ _ _ _ _ _ (jx_S_new hS z1 o1) (hH.new (jx_A_in X.2.2.2.2.2.2.1 hS) rfl z1 o1 ?_) hl (by omega) (by omega) h
  exact ⟨_, hcl, (u_born ty X.2.2.2.2.1 hin hKn hkC e1 hty).to hfs⟩
theorem jx_ofNat {n : Int32} {N : Nat} (h : n = Int32.ofNat N) (hN : N ≤ 100000) : ¬ n < 0 ∧ n.toNatClampNeg = N := by
  subst h
  exact ⟨nI_pos (n := N) (by omega), nI_clamp (n := N) (by omega)⟩
theorem js_newi (X : jx_X p s m args meth c R G own nm cc nL mc ms) (hw : Cond.arrayClass .int ∈ jx_wl) (d : decode cc pc = .ok (.newarray .int, 2)) (hk : jx_KS p l e R s m args below meth c Φ G nL mc ms (pc + 2) (K)) : jx_KS p l e R s m args below meth c Φ G nL mc ms (pc) (jt_newi C J q K) := by
  intro H locs cells slots ls lv st bc bs w hS hH hl hc hs h
  unfold jt_newi at h
  split at h
  · obtain ⟨N, hn, hN, hb1, hb2, h⟩ := h
    obtain ⟨hn0, hnN⟩ := jx_ofNat hn hN
    have hz : H.size = w.1 := hH.1
    refine va_newaK (atype := .int) (N := N) X.1 X.2.1 (X.2.2.2.2.1 _ hw) rfl d rfl hn0 hnN (by show N * _ ≤ _; simp [componentBytes, newarray.typeOf]; omega) (by rw [X.2.2.2.2.2.2.2.1]; omega) (by rw [X.2.2.2.2.2.2.2.2]; omega) rfl fun H1 cA e1 z1 o1 hAr hNm => ?_
    have hcA : cA = G.2.1 .int := by
      have := (X.2.2.2.2.2.2.1.1.2 0 _ rfl).2
      exact Option.some.inj (hNm.symm.trans this)
    rw [← hz] at h
    refine hk _ _ _ _ _ _ _ _ _ _ (jx_S_new hS z1 o1) (hH.new (jx_A_in X.2.2.2.2.2.2.1 hS) rfl z1 o1 ?_) hl (by omega) (by omega) h
    subst hcA
    exact e1
  · exact h.elim
theorem js_newb (X : jx_X p s m args meth c R G own nm cc nL mc ms) (hw : Cond.arrayClass .byte ∈ jx_wl) (d : decode cc pc = .ok (.newarray .byte, 2)) (hk : jx_KS p l e R s m args below meth c Φ G nL mc ms (pc + 2) (K)) : jx_KS p l e R s m args below meth c Φ G nL mc ms (pc) (jt_newb C J q K) := by
  intro H locs cells slots ls lv st bc bs w hS hH hl hc hs h
  unfold jt_newb at h
  split at h
  · obtain ⟨N, hn, hN, hb1, hb2, h⟩ := h
    obtain ⟨hn0, hnN⟩ := jx_ofNat hn hN
    have hz : H.size = w.1 := hH.1
    refine va_newaK (atype := .byte) (N := N) X.1 X.2.1 (X.2.2.2.2.1 _ hw) rfl d rfl hn0 hnN (by show N * _ ≤ _; simp [componentBytes, newarray.typeOf]; omega) (by rw [X.2.2.2.2.2.2.2.1]; omega) (by rw [X.2.2.2.2.2.2.2.2]; omega) rfl fun H1 cA e1 z1 o1 hAr hNm => ?_
    have hcA : cA = G.2.1 .byte := by
      have := (X.2.2.2.2.2.2.1.1.2 1 _ rfl).2
      exact Option.some.inj (hNm.symm.trans this)
    rw [← hz] at h
    refine hk _ _ _ _ _ _ _ _ _ _ (jx_S_new hS z1 o1) (hH.new (jx_A_in X.2.2.2.2.2.2.1 hS) rfl z1 o1 ?_) hl (by omega) (by omega) h
    subst hcA
    exact e1
  · exact h.elim
theorem js_newr (X : jx_X p s m args meth c R G own nm cc nL mc ms) {ci t0 index : Nat} (ht : (jx_tys G)[t0]? = some (G.2.1 (.object (jx_nm ci)), .object (jx_nm ci))) (hAO : va_AO (jx_nm ci) s) (hw : Cond.classLink own index (jx_nm ci) ∈ jx_wl) (d : decode cc pc = .ok (.anewarray index, 3)) (hk : jx_KS p l e R s m args below meth c Φ G nL mc ms (pc + 3) (K)) : jx_KS p l e R s m args below meth c Φ G nL mc ms (pc) (jt_newr ci C J q K) := by
  intro H locs cells slots ls lv st bc bs w hS hH hl hc hs h
  unfold jt_newr at h
  split at h
  · obtain ⟨N, hn, hN, hb1, hb2, h⟩ := h
    obtain ⟨hn0, hnN⟩ := jx_ofNat hn hN
    have hz : H.size = w.1 := hH.1
    rename_i n r
    refine W.anew (C := jx_nm ci) X.1 X.2.1 X.2.2.2.1 (X.2.2.2.2.1 _ hw) (va_AO.use hAO) rfl d rfl hn0 (by rw [hnN]; omega) (by rw [X.2.2.2.2.2.2.2.1]; omega) (by rw [X.2.2.2.2.2.2.2.2, hnN]; omega) fun cA kA comp f1 f2 f3 f4 => ?_
    rw [hnN]
    generalize hH1 : H.push ({ cls := cA, slots := Array.replicate N .null, vm := .none } : Cell) = H1
    have z1 : H1.size = H.size + 1 := by rw [← hH1, Array.size_push]
    have e1 : H1[H.size]? = some (arrV cA N (fun _ => .null)) := by rw [← hH1, Array.getElem?_push_size, ← arrV_new]
    have o1 : ∀ q : Nat, q < H.size → H1[q]? = H[q]? := fun q hq => by rw [← hH1, Array.getElem?_push, if_neg (Nat.ne_of_lt hq)]
    have hcA : cA = G.2.1 (.object (jx_nm ci)) := by
      obtain ⟨-, -, -, -, -, this⟩ := (X.2.2.2.2.2.2.1.1.2 t0 _ ht).2
      exact Option.some.inj (f1.symm.trans this)
    rw [← hz] at h
    refine hk _ _ _ _ _ _ _ _ _ _ (jx_S_new hS z1 o1) (hH.new (jx_A_in X.2.2.2.2.2.2.1 hS) rfl z1 o1 ?_) hl (by omega) (by omega) h
    subst hcA
    show H1[H.size]? = some (vp_cell _ _)
    rw [vp_cell_q]
    exact e1
  · exact h.elim
theorem js_cpy (X : jx_X p s m args meth c R G own nm cc nL mc ms) {ty : FieldType} {t0 index : Nat} (hns : ty ≠ .short) (ht : (jx_tys G)[t0]? = some (G.2.1 ty, ty)) (hprim : refKind ty = false) (w1 : Cond.methodLink own index arraycopyName ∈ jx_wl) (w2 : Cond.native arraycopyName ∈ jx_wl) (w3 : Cond.static arraycopyName ∈ jx_wl) (w4 : Cond.initialized "java/lang/System" ∈ jx_wl) (hfr : 1 ≤ R.frames) (hlo : 18 ≤ R.locals) (d : decode cc pc = .ok (.invokestatic index, 3)) (hk : jx_KS p l e R s m args below meth c Φ G nL mc ms (pc + 3) (K)) : jx_KS p l e R s m args below meth c Φ G nL mc ms (pc) (jt_cpy ty C J q K) := by
  intro H locs cells slots ls lv st bc bs w hS hH hl hc hs h
  unfold jt_cpy at h
  split at h
  · obtain ⟨n0, n1, f, g, ha0, ha1, h1, h2, h3, h4, h5, hfit, h⟩ := h
    rename_i n dp a sp a0
    have ho : ∀ (n : Nat) (f : Nat → Int32), jx_own (.inl (ty, n, .inl f)) = true := fun n f => by cases ty <;> first | rfl | exact absurd rfl hns
    obtain ⟨hA0, hat0⟩ := hH.2.2.2 a0 _ ha0 (ho _ _)
    obtain ⟨hA, hat⟩ := hH.2.2.2 a _ ha1 (ho _ _)
    have nn : ∀ z : Int32, ¬ z < 0 → z.toInt = (z.toNatClampNeg : Int) := by
      intro z hz
      have hz0 : (0 : Int) ≤ z.toInt := by
        have := Int32.not_lt.mp hz
        simpa using Int32.le_iff_toInt_le.mp this
      show z.toInt = ((z.toInt.toNat : Nat) : Int)
      omega
    intro T hT X1
    have hc0 : H[a0]? = some (vp_cell (G.2.1 ty) (n0, .inl f)) := hat0
    have hc1 : H[a]? = some (vp_cell (G.2.1 ty) (n1, .inl g)) := hat
    obtain ⟨-, k0, hk0, cm0, hkk0⟩ := (X.2.2.2.2.2.2.1.1.2 t0 _ ht).1 n0 (fun j => .int (f j))
    obtain ⟨-, k1, hk1, cm1, hkk1⟩ := (X.2.2.2.2.2.2.1.1.2 t0 _ ht).1 n1 (fun j => .int (g j))
    obtain ⟨vm', X', step⟩ := X1.arraycopy X.1 X.2.2.2.1 (X.2.2.2.2.1 _ w1) (X.2.2.2.2.1 _ w2) (X.2.2.2.2.1 _ w3) (X.2.2.2.2.1 _ w4) (src := a0) (dst := a) (cs := vp_cell (G.2.1 ty) (n0, .inl f)) (cd := vp_cell (G.2.1 ty) (n1, .inl g)) (srcPos := sp) (destPos := dp) (n := n) (by rw [hT]; exact hc0) (by rw [hT]; exact hc1)
      (fun _ h => by cases h) (fun _ h => by cases h) (fun h => by cases h) (fun h => by cases h) hk0 hk1 hkk0 hkk1 (by simp [hprim]) h1 h2 h3
      (by rw [nn sp h1, nn n h3]; show ¬ _ > ((arrV (G.2.1 ty) n0 (fun j => .int (f j))).slots.size : Int); rw [arrV_size]; omega)
      (by rw [nn dp h2, nn n h3]; show ¬ _ > ((arrV (G.2.1 ty) n1 (fun j => .int (g j))).slots.size : Int); rw [arrV_size]; omega)
      (fun vm₁ _ i hi => by
        have e : (vp_cell (G.2.1 ty) (n0, .inl f)).slots.getD (sp.toNatClampNeg + i) .null = .int (f (sp.toNatClampNeg + i)) := by
          show (arrV (G.2.1 ty) n0 (fun j => .int (f j))).slots.getD _ _ = _
          rw [Array.getD_eq_getD_getElem?, arrV_read _ _ (by omega)]
          rfl
        refine ⟨?_, ?_⟩
        · rw [e]
          exact hfit i hi
        · rw [e]
          exact trivial)
      (g := F0 m pc ls ([.int n, .int dp, .ref a, .int sp, .ref a0])) rfl (hl.1.trans X.2.2.1.symm) (rest := []) rfl (by rw [X.2.1]; exact d) hfr (by show 2 * 0 + 0 + 18 ≤ _; omega)
    have e1 : copied (vp_cell (G.2.1 ty) (n0, .inl f)) (vp_cell (G.2.1 ty) (n1, .inl g)) sp dp n = vp_cell (G.2.1 ty) (n1, .inl (va_cpy f g sp.toNatClampNeg dp.toNatClampNeg n.toNatClampNeg)) := va_copied (fun z => .int z) (G.2.1 ty) (G.2.1 ty) f g h4
    rw [e1] at X' step
    have hlt : a < H.size := (Array.getElem?_eq_some_iff.mp hc1).1
    have hheap : ((T.setVm vm').setCell a (vp_cell (G.2.1 ty) (n1, .inl (va_cpy f g sp.toNatClampNeg dp.toNatClampNeg n.toNatClampNeg)))).heap = H.setIfInBounds a (vp_cell (G.2.1 ty) (n1, .inl (va_cpy f g sp.toNatClampNeg dp.toNatClampNeg n.toNatClampNeg))) := by rw [← hT]; rfl
    have oq : ∀ q : Nat, q ≠ a → (H.setIfInBounds a (vp_cell (G.2.1 ty) (n1, .inl (va_cpy f g sp.toNatClampNeg dp.toNatClampNeg n.toNatClampNeg))))[q]? = H[q]? := fun q hq => by simp [Array.getElem?_setIfInBounds, Ne.symm hq]
    obtain ⟨t, a1, b1⟩ := hk _ _ _ _ _ _ _ _ _ _ ⟨by simp; exact hS.1, fun q g1 g2 => by
        rw [oq q (fun e => g2 (by rw [e]; exact hA))]
        exact hS.2.1 q g1 g2, fun q hq => by
        rcases List.mem_append.mp hq with h | h
        · exact hS.2.2 q h
        · obtain ⟨z, -, hz⟩ := List.mem_map.mp h
          rw [← hz]
          exact hA⟩ (hH.put hA (ho n1 (va_cpy f g sp.toNatClampNeg dp.toNatClampNeg n.toNatClampNeg)) (by simp) oq (show (H.setIfInBounds a _)[a]? = some _ by simp [Array.getElem?_setIfInBounds, hlt])) hl hc hs h _ hheap X'
    exact ⟨t, step t a1, b1⟩
  · exact h.elim
end JXR
end
section
/-! CALLS AND RETURNS of the plain machine -/
def jx_ws (M : jx_Me) : List Cond := .code M.1 M.2.1 M.2.2.1 M.2.2.2.1 :: jx_wl
def jx_rm (M : jx_Me) : Room := { frames := M.2.2.2.2.2.1, cells := M.2.2.2.2.1.1, slots := M.2.2.2.2.1.2, locals := M.2.2.2.2.2.2 }
def jx_Qc (G : jx_G) (K : jx_Q) : Array Value → State → Outcome → State → Prop := fun _ st oc t => (∃ (w : jx_W) (r : Option Value), oc = .returned r ∧ K w r ∧ jx_PW G w t) ∧ va_F (jx_A G) st t
def jx_Met (l : Launch) (G : jx_G) (M : jx_Me) (As : List Value) (w : jx_W) (K : jx_Q) : Prop := Met l M.1 (jx_ws M) (jx_rm M) (va_Pc As (jx_PW G w)) (jx_Qc G K) M.2.2.2.2.1.1 M.2.2.2.2.1.2 (jx_A G)
def jx_CS (l : Launch) (G : jx_G) (Tb : Nat → jx_Me) (C : jx_C) : Prop := ∀ (y : Nat) (As : List Value) (w : jx_W) (K : jx_Q), (lg_sl As).length ≤ (Tb y).2.2.1 → C y As w K → jx_Met l G (Tb y) As w K
/-- what the tables have of a method with n parameters -/
def jx_mok (M : jx_Me) (n : Nat) : Prop := Cond.code M.1 M.2.1 M.2.2.1 M.2.2.2.1 ∈ jx_wl ∧ Cond.initialized M.1.cls ∈ jx_wl ∧ (M.1.cls ≠ "java/lang/invoke/MethodHandle" ∧ M.1.cls ≠ "java/lang/invoke/VarHandle" ∧ (parseMethodDescriptor M.1.desc).map (fun d => d.parameters.length) = some n) ∧ plainName M.1.cls = true
theorem jx_wl_good {M : jx_Me} {n : Nat} (h : jx_mok M n) : GoodIn jx_wl (jx_ws M) := by
  intro w hw
  have hm : w ∈ jx_wl := by
    rcases List.mem_cons.mp hw with h1 | h1
    · rw [h1]; exact h.1
    · exact h1
  exact ⟨hm, good_of_word (List.mem_filter.mp hm).2⟩
section JXC
variable {p : Program} {l : Launch} {e : Env} {R : Room} {s : State} {m : MethodId} {args : Array Value} {below : List Frame} {meth : Method} {c : Code} {Φ : State → Prop} {G : jx_G} {own nm : String} {cc : ByteArray} {nL mc ms pc : Nat} {C : jx_C} {J : jx_J} {q : jx_Q} {K : jx_K}
theorem jx_pre {H : Heap} {locs : List Loc} {w : jx_W} {As : List Value} (hF : jx_F G s) (hS : va_S (jx_A G) s.heap H locs) (hH : jx_H G s w H) : FrameBlind (va_Pc As (jx_PW G w)) ∧ ∀ U : State, U.heap = H → s.WarmedH U.vm → va_Pc As (jx_PW G w) As.toArray U :=
  ⟨fun _ _ _ _ h => ⟨h.1, h.2.calling⟩, fun U hU hW => ⟨rfl, hF.moved hW (by rw [hU]; exact hS.1) (fun a h1 h2 => by rw [hU]; exact hS.2.1 a h1 h2), by rw [hU]; exact hH.moved hW.alike⟩⟩
theorem jx_run {H : Heap} {locs : List Loc} {cells slots mcy msy : Nat} {ls : Array Slot} {st0 rest : List Value} {a : Array Value} {K0 : jx_Q} (hr : va_Run p l e R s m args below meth c H locs cells slots mcy msy (F0 m pc ls st0) rest (jx_Qc G K0 a) (jx_A G)) (hS : va_S (jx_A G) s.heap H locs)
    (kk : ∀ (w : jx_W) (r : Option Value) (H1 : Heap) (locs1 : List Loc), K0 w r → va_S (jx_A G) s.heap H1 locs1 → jx_H G s w H1 → W p l e R s m args below meth c H1 locs1 (cells + mcy) (slots + msy) Φ (F0 m (pc + 3) ls (r.toList ++ rest))) : W p l e R s m args below meth c H locs cells slots Φ (F0 m pc ls st0) := by
  intro T hT X
  obtain ⟨v, st₀, t, T', L, h0, X', hL, e1, e2, ⟨⟨w', r, hv, hk0, hpw⟩, hz, hk⟩, st⟩ := hr T hT X
  cases hv
  rw [h0] at hz hk
  have hal : s.vm.Alike t.vm := by rw [← e2]; exact X'.warmed.alike
  obtain ⟨t2, a1, b1⟩ := kk w' v T'.heap (locs ++ L) hk0 ⟨Nat.le_trans hS.1 (by rw [e1]; exact hz), fun q h1 h2 => by rw [e1, hk q (Nat.lt_of_lt_of_le h1 hS.1) h2]; exact hS.2.1 q h1 h2, fun q hq => (List.mem_append.mp hq).elim (hS.2.2 q) (hL q)⟩ (by rw [e1]; exact hpw.2.moved hal.symm) T' rfl X'
  exact ⟨t2, st t2 a1, b1⟩
theorem jx_ret_ok {k : List Value → jx_W → Prop} {rest : List Value} {w : jx_W} {r : Option Value} : ∀ {rk : Nat}, jx_ret rk k rest w r → k (r.toList ++ rest) w
  | 0, h => by obtain ⟨h1, h2⟩ := h; rw [h1]; exact h2
  | 1, h => by obtain ⟨x, h1, h2⟩ := h; rw [h1]; exact h2
  | 2, h => by obtain ⟨x, h1, h2⟩ := h; rw [h1]; exact h2
  | n + 3, h => by obtain ⟨x, h1, h2⟩ := h; rw [h1]; exact h2
theorem jx_fit_ok {rest As : List Value} {n : Nat} (h : jx_fit rest As n = true) : (rest.map fun v => v.category).sum ≤ 8 ∧ (lg_sl As).length ≤ n := by
  unfold jx_fit at h
  simp only [Bool.and_eq_true] at h
  exact ⟨Nat.le_of_ble_eq_true h.1, Nat.le_of_ble_eq_true h.2⟩
theorem jx_split (st : List Value) (n : Nat) : st = (st.take n).reverse.reverse ++ st.drop n := by rw [List.reverse_reverse, List.take_append_drop]
def jx_room (M : jx_Me) (R : Room) : Prop := M.2.2.2.2.2.1 + 1 ≤ R.frames ∧ 8 + (M.2.2.1 + 11) + M.2.2.2.2.2.2 ≤ R.locals
theorem js_callS (X : jx_X p s m args meth c R G own nm cc nL mc ms) {Tb : Nat → jx_Me} {y na rk index : Nat} (hC : jx_CS l G Tb C) (hm : jx_mok (Tb y) na) (h0 : (Tb y).2.2.2.2.1 = (0, 0)) (hR : jx_room (Tb y) R) (w1 : Cond.methodLink own index (Tb y).1 ∈ jx_wl) (w2 : Cond.static (Tb y).1 ∈ jx_wl) (d : decode cc pc = .ok (.invokestatic index, 3)) (hk : jx_KS p l e R s m args below meth c Φ G nL mc ms (pc + 3) K) : jx_KS p l e R s m args below meth c Φ G nL mc ms pc (jt_call Tb y na rk C J q K) := by
  intro H locs cells slots ls lv st bc bs w hS hH hl hc hs h
  unfold jt_call at h
  split at h
  · rename_i hfit hlen
    obtain ⟨hf1, hf2⟩ := jx_fit_ok hfit
    have hM := hC y _ w _ hf2 h
    unfold jx_Met at hM
    rw [h0] at hM
    have hG := jx_wl_good hm
    have hts := X.2.2.2.2.1
    have cw : CallB R s args own index (Tb y).1 (Tb y).2.1 (Tb y).2.2.1 (Tb y).2.2.2.1 (jx_ws (Tb y)) (jx_rm (Tb y)) 0 0 na := callB_of na hts hG rfl (by unfold jx_rm; rw [h0]) (by unfold jx_rm; rw [h0]) (hts _ hm.2.1) (hts _ w1) hm.2.2.1 hR
    refine jx_run (va_runS (g := F0 m pc ls st) (As := (st.take na).reverse) (rest := st.drop na) ⟨X.1, X.2.1, X.2.2.1, X.2.2.2.1, hts⟩ hM ⟨cw, hts _ w2⟩ (jx_pre X.2.2.2.2.2.2.1 hS hH) rfl (by rw [List.length_reverse]; exact Nat.eq_of_beq_eq_true hlen) hl.1 (jx_split st na) (lv_room hf1) d ⟨by rw [X.2.2.2.2.2.2.2.1]; omega, by rw [X.2.2.2.2.2.2.2.2]; omega⟩) hS (fun w' r H1 locs1 hk0 hS1 hH1 => ?_)
    exact hk _ _ _ _ _ _ _ _ _ _ hS1 hH1 hl hc hs (jx_ret_ok hk0)
  · exact h.elim
theorem js_callSN (X : jx_X p s m args meth c R G own nm cc nL mc ms) {Tb : Nat → jx_Me} {y na rk index : Nat} {host : String} (hC : jx_CS l G Tb C) (hm : jx_mok (Tb y) na) (h0 : (Tb y).2.2.2.2.1 = (0, 0)) (hR : jx_room (Tb y) R) (w1 : (own, index, (Tb y).1, host) ∈ jx_nest) (w2 : Cond.static (Tb y).1 ∈ jx_wl) (d : decode cc pc = .ok (.invokestatic index, 3)) (hk : jx_KS p l e R s m args below meth c Φ G nL mc ms (pc + 3) K) : jx_KS p l e R s m args below meth c Φ G nL mc ms pc (jt_call Tb y na rk C J q K) := by
  intro H locs cells slots ls lv st bc bs w hS hH hl hc hs h
  unfold jt_call at h
  split at h
  · rename_i hfit hlen
    obtain ⟨hf1, hf2⟩ := jx_fit_ok hfit
    have hM := hC y _ w _ hf2 h
    unfold jx_Met at hM
    rw [h0] at hM
    have hG := jx_wl_good hm
    have hts := X.2.2.2.2.1
    have cw : va_CN R s args own index (Tb y).1 host (Tb y).2.1 (Tb y).2.2.1 (Tb y).2.2.2.1 (jx_ws (Tb y)) (jx_rm (Tb y)) 0 0 na := va_cnB na hts hG rfl (by unfold jx_rm; rw [h0]) (by unfold jx_rm; rw [h0]) (X.2.2.2.2.2.2.1.2.2.2.2.2 _ w1) (hts _ hm.2.1) hm.2.2.1 hR
    refine jx_run (va_runSN (g := F0 m pc ls st) (As := (st.take na).reverse) (rest := st.drop na) ⟨X.1, X.2.1, X.2.2.1, X.2.2.2.1, hts⟩ hM ⟨cw, hts _ w2, trivial⟩ (jx_pre X.2.2.2.2.2.2.1 hS hH) rfl (by rw [List.length_reverse]; exact Nat.eq_of_beq_eq_true hlen) hl.1 (jx_split st na) (lv_room hf1) d ⟨by rw [X.2.2.2.2.2.2.2.1]; omega, by rw [X.2.2.2.2.2.2.2.2]; omega⟩) hS (fun w' r H1 locs1 hk0 hS1 hH1 => ?_)
    exact hk _ _ _ _ _ _ _ _ _ _ hS1 hH1 hl hc hs (jx_ret_ok hk0)
  · exact h.elim
theorem jx_splitV {st As : List Value} {na : Nat} {a : Nat} (h : (st.take na).reverse = .ref a :: As) : st = As.reverse ++ .ref a :: st.drop na := by
  have h1 := jx_split st na
  rw [h, List.reverse_cons, List.append_assoc] at h1
  exact h1
theorem js_callV (X : jx_X p s m args meth c R G own nm cc nL mc ms) {Tb : Nat → jx_Me} {y na rk index ci N : Nat} {T : u_T} (hC : jx_CS l G Tb C) (hm : jx_mok (Tb y) na) (h0 : (Tb y).2.2.2.2.1 = (0, 0)) (hR : jx_room (Tb y) R) (hcl : vwCl[ci]? = some ((Tb y).1.cls, T, N)) (w1 : Cond.methodLink own index (Tb y).1 ∈ jx_wl) (w2 : Cond.instanceMethod (Tb y).1 ∈ jx_wl) (w3 : Cond.selects (Tb y).1.cls (Tb y).1 (Tb y).1 ∈ jx_wl) (d : decode cc pc = .ok (.invokevirtual index, 3)) (hk : jx_KS p l e R s m args below meth c Φ G nL mc ms (pc + 3) K) : jx_KS p l e R s m args below meth c Φ G nL mc ms pc (jt_callV Tb ci y (na + 1) rk C J q K) := by
  intro H locs cells slots ls lv st bc bs w hS hH hl hc hs h
  unfold jt_callV at h
  split at h
  · rename_i a As hfit hlen heq
    obtain ⟨⟨fs, hob⟩, h⟩ := h
    obtain ⟨hf1, hf2⟩ := jx_fit_ok hfit
    rw [heq] at hf2
    have hM := hC y _ w _ hf2 h
    unfold jx_Met at hM
    rw [h0] at hM
    have hG := jx_wl_good hm
    have hts := X.2.2.2.2.1
    have hAs : As.length = na := by
      have h1 := congrArg List.length heq
      rw [List.length_reverse, Nat.eq_of_beq_eq_true hlen] at h1
      simp at h1
      omega
    have cw : CallB R s args own index (Tb y).1 (Tb y).2.1 (Tb y).2.2.1 (Tb y).2.2.2.1 (jx_ws (Tb y)) (jx_rm (Tb y)) 0 0 na := callB_of na hts hG rfl (by unfold jx_rm; rw [h0]) (by unfold jx_rm; rw [h0]) (hts _ hm.2.1) (hts _ w1) hm.2.2.1 hR
    have hp := jx_pre (As := .ref a :: As) X.2.2.2.2.2.2.1 hS hH
    refine jx_run (va_runV (g := F0 m pc ls st) (C := (Tb y).1.cls) (b := a) (As := As) (rest := st.drop (na + 1)) ⟨X.1, X.2.1, X.2.2.1, X.2.2.2.1, hts⟩ hM ⟨cw, hts _ w2, hts _ w3⟩ ⟨hp.1, va_recv X.2.2.2.2.2.2.1.1 (hH.one hob rfl) (q0 := 0) hcl rfl, hp.2⟩ rfl hAs hl.1 (jx_splitV heq) (lv_room hf1) d ⟨by rw [X.2.2.2.2.2.2.2.1]; omega, by rw [X.2.2.2.2.2.2.2.2]; omega⟩) hS (fun w' r H1 locs1 hk0 hS1 hH1 => ?_)
    exact hk _ _ _ _ _ _ _ _ _ _ hS1 hH1 hl hc hs (jx_ret_ok hk0)
  · exact h.elim
theorem js_callI (X : jx_X p s m args meth c R G own nm cc nL mc ms) {Tb : Nat → jx_Me} {y na index : Nat} (hC : jx_CS l G Tb C) (hm : jx_mok (Tb y) na) (hrt : (Tb y).2.2.2.1 = none) (hR : jx_room (Tb y) R) (hnm : (Tb y).1.name = "<init>") (w1 : Cond.methodLink own index (Tb y).1 ∈ jx_wl) (w2 : Cond.instanceMethod (Tb y).1 ∈ jx_wl) (d : decode cc pc = .ok (.invokespecial index, 3)) (hk : jx_KS p l e R s m args below meth c Φ G nL mc ms (pc + 3) K) : jx_KS p l e R s m args below meth c Φ G nL mc ms pc (jt_callA Tb y (na + 1) C J q K) := by
  intro H locs cells slots ls lv st bc bs w hS hH hl hc hs h
  unfold jt_callA at h
  split at h
  · rename_i a As hfit hlen heq
    obtain ⟨hb1, hb2, h⟩ := h
    obtain ⟨hf1, hf2⟩ := jx_fit_ok hfit
    rw [heq] at hf2
    have hM := hC y _ w _ hf2 h
    unfold jx_Met at hM
    have hG := jx_wl_good hm
    have hts := X.2.2.2.2.1
    have hAs : As.length = na := by
      have h1 := congrArg List.length heq
      rw [List.length_reverse, Nat.eq_of_beq_eq_true hlen] at h1
      simp at h1
      omega
    have cw : CallB R s args own index (Tb y).1 (Tb y).2.1 (Tb y).2.2.1 (Tb y).2.2.2.1 (jx_ws (Tb y)) (jx_rm (Tb y)) (Tb y).2.2.2.2.1.1 (Tb y).2.2.2.2.1.2 na := callB_of na hts hG rfl rfl rfl (hts _ hm.2.1) (hts _ w1) hm.2.2.1 hR
    rw [hrt] at cw
    refine jx_run (va_runI (g := F0 m pc ls st) (b := a) (As := As) (rest := st.drop (na + 1)) ⟨X.1, X.2.1, X.2.2.1, X.2.2.2.1, hts⟩ hM ⟨cw, hnm, hts _ w2⟩ (jx_pre X.2.2.2.2.2.2.1 hS hH) rfl hAs hl.1 (jx_splitV heq) (lv_room hf1) d ⟨by rw [X.2.2.2.2.2.2.2.1]; omega, by rw [X.2.2.2.2.2.2.2.2]; omega⟩) hS (fun w' r H1 locs1 hk0 hS1 hH1 => ?_)
    obtain ⟨hr, hk0⟩ := hk0
    rw [hr]
    exact hk _ _ _ _ _ _ _ _ _ _ hS1 hH1 hl (by omega) (by omega) hk0
  · exact h.elim
theorem js_callIN (X : jx_X p s m args meth c R G own nm cc nL mc ms) {Tb : Nat → jx_Me} {y na index : Nat} {host : String} (hC : jx_CS l G Tb C) (hm : jx_mok (Tb y) na) (hrt : (Tb y).2.2.2.1 = none) (hR : jx_room (Tb y) R) (hnm : (Tb y).1.name = "<init>") (w1 : (own, index, (Tb y).1, host) ∈ jx_nest) (w2 : Cond.instanceMethod (Tb y).1 ∈ jx_wl) (d : decode cc pc = .ok (.invokespecial index, 3)) (hk : jx_KS p l e R s m args below meth c Φ G nL mc ms (pc + 3) K) : jx_KS p l e R s m args below meth c Φ G nL mc ms pc (jt_callA Tb y (na + 1) C J q K) := by
  intro H locs cells slots ls lv st bc bs w hS hH hl hc hs h
  unfold jt_callA at h
  split at h
  · rename_i a As hfit hlen heq
    obtain ⟨hb1, hb2, h⟩ := h
    obtain ⟨hf1, hf2⟩ := jx_fit_ok hfit
    rw [heq] at hf2
    have hM := hC y _ w _ hf2 h
    unfold jx_Met at hM
    have hG := jx_wl_good hm
    have hts := X.2.2.2.2.1
    have hAs : As.length = na := by
      have h1 := congrArg List.length heq
      rw [List.length_reverse, Nat.eq_of_beq_eq_true hlen] at h1
      simp at h1
      omega
    have cw : va_CN R s args own index (Tb y).1 host (Tb y).2.1 (Tb y).2.2.1 (Tb y).2.2.2.1 (jx_ws (Tb y)) (jx_rm (Tb y)) (Tb y).2.2.2.2.1.1 (Tb y).2.2.2.2.1.2 na := va_cnB na hts hG rfl rfl rfl (X.2.2.2.2.2.2.1.2.2.2.2.2 _ w1) (hts _ hm.2.1) hm.2.2.1 hR
    rw [hrt] at cw
    refine jx_run (va_runIN (g := F0 m pc ls st) (b := a) (As := As) (rest := st.drop (na + 1)) ⟨X.1, X.2.1, X.2.2.1, X.2.2.2.1, hts⟩ hM ⟨cw, hnm, hts _ w2⟩ (jx_pre X.2.2.2.2.2.2.1 hS hH) rfl hAs hl.1 (jx_splitV heq) (lv_room hf1) d ⟨by rw [X.2.2.2.2.2.2.2.1]; omega, by rw [X.2.2.2.2.2.2.2.2]; omega⟩) hS (fun w' r H1 locs1 hk0 hS1 hH1 => ?_)
    obtain ⟨hr, hk0⟩ := hk0
    rw [hr]
    exact hk _ _ _ _ _ _ _ _ _ _ hS1 hH1 hl (by omega) (by omega) hk0
  · exact h.elim
/-- what may be returned at pc -/
def jx_rd (cc : ByteArray) (pc : Nat) (ret : Option FieldType) : Option Value → Prop
  | some (.int x) => decode cc pc = .ok (.ireturn, 1) ∧ (ret = some .int ∨ (ret = some .boolean ∧ (x = 0 ∨ x = 1)))
  | some (.long _) => decode cc pc = .ok (.lreturn, 1) ∧ ret = some .long
  | some (.ref _) => decode cc pc = .ok (.areturn, 1) ∧ ∃ n, ret = some (.object n)
  | none => decode cc pc = .ok (.return_, 1) ∧ ret = none
  | _ => False
def jx_RS (p : Program) (l : Launch) (e : Env) (R : Room) (s : State) (m : MethodId) (args : Array Value) (below : List Frame) (meth : Method) (c : Code) (Φ : State → Prop) (G : jx_G) (mc ms : Nat) (cc : ByteArray) (ret : Option FieldType) (q : jx_Q) : Prop := ∀ (H : Heap) (locs : List Loc) (ls : Array Slot) (pc : Nat) (w : jx_W) (r : Option Value), va_S (jx_A G) s.heap H locs → jx_H G s w H → q w r → jx_rd cc pc ret r → W p l e R s m args below meth c H locs mc ms Φ (F0 m pc ls r.toList)
theorem jx_RS_of (X : jx_X p s m args meth c R G own nm cc nL mc ms) {ret : Option FieldType} (hr : meth.sig.returnType = ret) (hlocks : meth.locks = false) : jx_RS p l e R s m args below meth c (MQ below (jx_Qc G q) args s mc ms (jx_A G)) G mc ms cc ret q := by
  intro H locs ls pc w r hS hH hq hd
  have hQ : ∀ t : State, t.heap = H → s.WarmedH t.vm → jx_Qc G q args s (.returned r) t := fun t ht hW => ⟨⟨w, r, rfl, hq, X.2.2.2.2.2.2.1.moved hW (by rw [ht]; exact hS.1) (fun a h1 h2 => by rw [ht]; exact hS.2.1 a h1 h2), by rw [ht]; exact hH.moved hW.alike⟩, hS.F ht⟩
  match r, hd, hQ with
  | some (.int x), hd, hQ =>
    rcases hd.2 with h1 | ⟨h1, h2⟩
    · exact W.iret X.1 X.2.1 (hr.trans h1) hQ hS.2.2 hd.1 hlocks
    · rcases h2 with h2 | h2
      · subst h2; exact W.zret X.1 X.2.1 (hr.trans h1) (by decide +kernel) hQ hS.2.2 hd.1 hlocks
      · subst h2; exact W.zret X.1 X.2.1 (hr.trans h1) (by decide +kernel) hQ hS.2.2 hd.1 hlocks
  | some (.long x), hd, hQ => exact W.lret X.1 X.2.1 (hr.trans hd.2) hQ hS.2.2 hd.1 hlocks
  | some (.ref x), hd, hQ =>
    obtain ⟨h1, n, h2⟩ := hd
    exact W.aret X.1 X.2.1 (hr.trans h2) (Or.inl ⟨n, rfl⟩) (Or.inr ⟨x, rfl⟩) hQ hS.2.2 h1 hlocks
  | none, hd, hQ => exact W.vret X.1 X.2.1 (hr.trans hd.2) hQ hS.2.2 hd.1 hlocks
  | some .null, hd, _ => exact hd.elim
  | some (.float _), hd, _ => exact hd.elim
  | some (.double _), hd, _ => exact hd.elim
  | some (.retAddr _), hd, _ => exact hd.elim
theorem js_ri {ret : Option FieldType} (hq : jx_RS p l e R s m args below meth c Φ G mc ms cc ret q) (hr : ret = some .int) (d : decode cc pc = .ok (.ireturn, 1)) : jx_KS p l e R s m args below meth c Φ G nL mc ms pc (jt_ri C J q K) := by
  intro H locs cells slots ls lv st bc bs w hS hH hl hc hs h
  unfold jt_ri at h
  split at h
  · exact W.widen (by omega) (by omega) (hq H locs ls pc w (some (.int _)) hS hH h ⟨d, Or.inl hr⟩)
  · exact h.elim
theorem js_rz {ret : Option FieldType} (hq : jx_RS p l e R s m args below meth c Φ G mc ms cc ret q) (hr : ret = some .boolean) (d : decode cc pc = .ok (.ireturn, 1)) : jx_KS p l e R s m args below meth c Φ G nL mc ms pc (jt_rz C J q K) := by
  intro H locs cells slots ls lv st bc bs w hS hH hl hc hs h
  unfold jt_rz at h
  split at h
  · exact W.widen (by omega) (by omega) (hq H locs ls pc w (some (.int _)) hS hH h.2 ⟨d, Or.inr ⟨hr, h.1⟩⟩)
  · exact h.elim
theorem js_rl {ret : Option FieldType} (hq : jx_RS p l e R s m args below meth c Φ G mc ms cc ret q) (hr : ret = some .long) (d : decode cc pc = .ok (.lreturn, 1)) : jx_KS p l e R s m args below meth c Φ G nL mc ms pc (jt_rl C J q K) := by
  intro H locs cells slots ls lv st bc bs w hS hH hl hc hs h
  unfold jt_rl at h
  split at h
  · exact W.widen (by omega) (by omega) (hq H locs ls pc w (some (.long _)) hS hH h ⟨d, hr⟩)
  · exact h.elim
theorem js_rr {ret : Option FieldType} (hq : jx_RS p l e R s m args below meth c Φ G mc ms cc ret q) {n : String} (hr : ret = some (.object n)) (d : decode cc pc = .ok (.areturn, 1)) : jx_KS p l e R s m args below meth c Φ G nL mc ms pc (jt_rr C J q K) := by
  intro H locs cells slots ls lv st bc bs w hS hH hl hc hs h
  unfold jt_rr at h
  split at h
  · exact W.widen (by omega) (by omega) (hq H locs ls pc w (some (.ref _)) hS hH h ⟨d, n, hr⟩)
  · exact h.elim
theorem js_rv {ret : Option FieldType} (hq : jx_RS p l e R s m args below meth c Φ G mc ms cc ret q) (hr : ret = none) (d : decode cc pc = .ok (.return_, 1)) : jx_KS p l e R s m args below meth c Φ G nL mc ms pc (jt_rv C J q K) := by
  intro H locs cells slots ls lv st bc bs w hS hH hl hc hs h
  unfold jt_rv at h
  split at h
  · exact W.widen (by omega) (by omega) (hq H locs ls pc w none hS hH h ⟨d, hr⟩)
  · exact h.elim
theorem js_sw (X : jx_X p s m args meth c R G own nm cc nL mc ms) {dflt lo hi : Int} {offs : Array Int} {len b0 : Nat} {bs0 : List Nat} {tg : Nat → Nat} (hlen : offs.size = bs0.length) (hhi : hi + 1 = lo + bs0.length) (hd0 : (pc : Int) + dflt = (tg b0 : Int)) (ho : ∀ (i b : Nat), bs0[i]? = some b → ∃ off, offs[i]? = some off ∧ (pc : Int) + off = (tg b : Int)) (hj : ∀ b, jx_KS p l e R s m args below meth c Φ G nL mc ms (tg b) (J b)) (d : decode cc pc = .ok (.tableswitch dflt lo hi offs, len)) : jx_KS p l e R s m args below meth c Φ G nL mc ms pc (jt_sw lo b0 bs0 C J q K) := by
  intro H locs cells slots ls lv st bc bs w hS hH hl hc hs h
  unfold jt_sw at h
  split at h
  · rename_i x r
    have key : ∀ (jj : Nat → Prop) (l0 : List Nat) (n : Int), jx_sw x lo b0 jj l0 n → (∀ (i b : Nat), l0[i]? = some b → x.toInt = n + i → jj b) ∧ ((x.toInt < lo ∨ n + l0.length ≤ x.toInt) → jj b0) := by
      intro jj l0
      induction l0 with
      | nil => intro n h; exact ⟨fun i b hb => (by cases hb), fun hx => h (by simpa using hx)⟩
      | cons b t ih =>
        intro n h
        obtain ⟨h1, h2⟩ := h
        obtain ⟨g1, g2⟩ := ih (n + 1) h2
        refine ⟨fun i b' hb hx => ?_, fun hx => g2 (by simp at hx; omega)⟩
        match i, hb with
        | 0, hb => cases hb; exact h1 (by simpa using hx)
        | i + 1, hb => exact g1 i b' hb (by simp at hx; omega)
    obtain ⟨g1, g2⟩ := key _ _ _ h
    by_cases hx : x.toInt < lo ∨ hi < x.toInt
    · exact lv_tableOut X.1 X.2.1 d hx hd0 (hj _ _ _ _ _ _ _ _ _ _ _ hS hH hl hc hs (g2 (by omega)))
    · have hx1 : ¬ x.toInt < lo := fun z => hx (Or.inl z)
      have hx2 : ¬ hi < x.toInt := fun z => hx (Or.inr z)
      have hlt : (x.toInt - lo).toNat < bs0.length := by omega
      obtain ⟨off, ho1, ho2⟩ := ho (x.toInt - lo).toNat bs0[(x.toInt - lo).toNat] (List.getElem?_eq_getElem hlt)
      exact lv_tableIn X.1 X.2.1 d hx1 hx2 ho1 ho2 (hj _ _ _ _ _ _ _ _ _ _ _ hS hH hl hc hs (g1 _ _ (List.getElem?_eq_getElem hlt) (by omega)))
  · exact h.elim
end JXC
end
section
/-! WHICH OP AN INSTRUCTION IS, whether it is linked as its data say, and that this is sound -/
def jx_x (x : List Nat) (i : Nat) : Nat := x.getD i 0
def jx_gf (x : List Nat) : jx_T := match jx_x x 0 with
  | 0 => jt_gfi (jx_x x 1) (jx_x x 2)
  | 1 => jt_gfl (jx_x x 1) (jx_x x 2)
  | _ => jt_gfr (jx_x x 1) (jx_x x 2)
def jx_pf (x : List Nat) : jx_T := match jx_x x 0 with
  | 0 => jt_pfi (jx_x x 1) (jx_x x 2)
  | 1 => jt_pfl (jx_x x 1) (jx_x x 2)
  | 2 => jt_pfr (jx_x x 1) (jx_x x 2)
  | _ => jt_pfz (jx_x x 1) (jx_x x 2)
def jx_dv : FieldType → Value
  | .int => .int 0
  | .boolean => .int 0
  | .long => .long 0
  | _ => .null
def jx_born (ci : Nat) : List Value := match ci with
  | 0 => [.int 0, .null, .null, .null, .null, .null, .null, .null, .null]
  | 1 => [.int 0, .int 0, .null, .null, .null, .null]
  | 2 => [.int 0, .int 0, .int 0, .int 0, .null, .null, .null, .int 0, .int 0, .int 0, .int 0, .int 0]
  | 3 => [.null, .null, .int 0, .int 0, .int 0, .int 0, .int 0, .int 0, .long 0, .null, .null, .int 0, .int 0, .int 0, .int 0]
  | 4 => [.int 0, .null, .null, .null]
  | 5 => [.null, .null, .null, .null, .int 0, .int 0]
  | 6 => [.null, .null]
  | 7 => [.null, .int 0, .null, .null, .null, .null, .null, .int 0]
  | _ => [.null, .int 0, .null, .int 0, .int 0, .null, .null, .null, .null, .null, .null, .null, .int 0, .int 0, .int 0, .null, .null]
def jx_nf (ci : Nat) : Nat := match vwCl[ci]? with
  | some r => r.2.2
  | none => 0
def jx_al0 (x : List Nat) : jx_T := match jx_x x 0 with
  | 0 => jt_iald
  | _ => jt_rald
def jx_len (x : List Nat) : jx_T := match jx_x x 0 with
  | 0 => jt_ilen
  | 1 => jt_rlen
  | _ => jt_blen
def jx_na (t : ArrayType) : jx_T := match t with
  | .int => jt_newi
  | .byte => jt_newb
  | _ => jt_bad
def jx_ist (Tb : Nat → jx_Me) (x : List Nat) : jx_T := match jx_x x 0 with
  | 0 => jt_call Tb (jx_x x 1) (jx_x x 2) (jx_x x 3)
  | 1 => jt_call Tb (jx_x x 1) (jx_x x 2) (jx_x x 3)
  | 2 => jt_cpy .int
  | _ => jt_cpy .byte
def jx_isp (Tb : Nat → jx_Me) (x : List Nat) : jx_T := match jx_x x 0 with
  | 0 => jt_callA Tb (jx_x x 1) (jx_x x 2)
  | 1 => jt_callA Tb (jx_x x 1) (jx_x x 2)
  | _ => jt_oi
def jx_ire (x : List Nat) : jx_T := match jx_x x 0 with
  | 0 => jt_ri
  | _ => jt_rz
def jx_tr (Tb : Nat → jx_Me) (i : jx_I) : jx_T := match i.2.1 with
  | .nop => jt_go (jx_x i.2.2 0)
  | .iconst _ => jt_c (.int (jx_lit i.2.2))
  | .bipush _ => jt_c (.int (jx_lit i.2.2))
  | .sipush _ => jt_c (.int (jx_lit i.2.2))
  | .ldc _ => jt_c (.int (Int32.ofNat (jx_x i.2.2 0)))
  | .ldc_w _ => jt_c (.int (Int32.ofNat (jx_x i.2.2 0)))
  | .ldc2_w _ => jt_c (.long (Int64.ofNat (jx_x i.2.2 0)))
  | .lconst n => jt_c (.long (Int64.ofNat n))
  | .iload j => jt_ldi j
  | .iload_n j => jt_ldi j
  | .lload j => jt_ldl j
  | .lload_n j => jt_ldl j
  | .aload j => jt_lda j
  | .aload_n j => jt_lda j
  | .istore j => jt_sti j
  | .istore_n j => jt_sti j
  | .lstore j => jt_stl j
  | .lstore_n j => jt_stl j
  | .astore j => jt_sta j
  | .astore_n j => jt_sta j
  | .iinc j _ => jt_inc j (jx_lit i.2.2)
  | .iadd => jt_ii (fun x y => x + y)
  | .isub => jt_ii (fun x y => x - y)
  | .imul => jt_ii (fun x y => x * y)
  | .iand => jt_ii (fun x y => x &&& y)
  | .ior => jt_ii (fun x y => x ||| y)
  | .ixor => jt_ii (fun x y => x ^^^ y)
  | .ishl => jt_ii (fun x y => x <<< (y &&& 31))
  | .ishr => jt_ii (fun x y => x >>> (y &&& 31))
  | .iushr => jt_ii (fun x y => (x.toUInt32 >>> (y.toUInt32 &&& Int32.toUInt32 31)).toInt32)
  | .irem => jt_irem
  | .ladd => jt_ll (fun x y => x + y)
  | .lsub => jt_ll (fun x y => x - y)
  | .lmul => jt_ll (fun x y => x * y)
  | .land => jt_ll (fun x y => x &&& y)
  | .lor => jt_ll (fun x y => x ||| y)
  | .lshl => jt_li (fun x y => x <<< (y.toInt64 &&& 63))
  | .lushr => jt_li (fun x y => (x.toUInt64 >>> (y.toInt64.toUInt64 &&& Int64.toUInt64 63)).toInt64)
  | .lcmp => jt_lcmp
  | .i2l => jt_i2l
  | .l2i => jt_l2i
  | .i2b => jt_i2b
  | .dup => jt_dup
  | .dup2 => jt_dup2
  | .pop => jt_pop
  | .ifCond .eq _ => jt_if (fun x => x = 0) (fun x => ¬ x = 0) (jx_x i.2.2 0)
  | .ifCond .ne _ => jt_if (fun x => ¬ x = 0) (fun x => x = 0) (jx_x i.2.2 0)
  | .ifCond .lt _ => jt_if (fun x => x < 0) (fun x => ¬ x < 0) (jx_x i.2.2 0)
  | .ifCond .ge _ => jt_if (fun x => 0 ≤ x) (fun x => ¬ 0 ≤ x) (jx_x i.2.2 0)
  | .ifCond .gt _ => jt_if (fun x => 0 < x) (fun x => ¬ 0 < x) (jx_x i.2.2 0)
  | .ifCond .le _ => jt_if (fun x => x ≤ 0) (fun x => ¬ x ≤ 0) (jx_x i.2.2 0)
  | .if_icmp .eq _ => jt_cmp (fun x y => x = y) (fun x y => ¬ x = y) (jx_x i.2.2 0)
  | .if_icmp .ne _ => jt_cmp (fun x y => ¬ x = y) (fun x y => x = y) (jx_x i.2.2 0)
  | .if_icmp .lt _ => jt_cmp (fun x y => x < y) (fun x y => ¬ x < y) (jx_x i.2.2 0)
  | .if_icmp .ge _ => jt_cmp (fun x y => y ≤ x) (fun x y => ¬ y ≤ x) (jx_x i.2.2 0)
  | .if_icmp .gt _ => jt_cmp (fun x y => y < x) (fun x y => ¬ y < x) (jx_x i.2.2 0)
  | .if_icmp .le _ => jt_cmp (fun x y => x ≤ y) (fun x y => ¬ x ≤ y) (jx_x i.2.2 0)
  | .goto _ => jt_go (jx_x i.2.2 0)
  | .tableswitch _ lo _ _ => jt_sw lo (jx_x i.2.2 0) i.2.2.tail
  | .getfield _ => jx_gf i.2.2
  | .putfield _ => jx_pf i.2.2
  | .getstatic _ => jt_gs (jx_x i.2.2 0)
  | .iaload => jx_al0 i.2.2
  | .baload => jt_bald
  | .aaload => jt_aald (jx_x i.2.2 0)
  | .iastore => jt_iast
  | .bastore => jt_bast
  | .aastore => jt_aast (jx_x i.2.2 0)
  | .arraylength => jx_len i.2.2
  | .new _ => jt_new (jx_x i.2.2 0) (jx_nf (jx_x i.2.2 0)) (jx_born (jx_x i.2.2 0))
  | .newarray t => jx_na t
  | .anewarray _ => jt_newr (jx_x i.2.2 0)
  | .invokevirtual _ => jt_callV Tb (jx_x i.2.2 1) (jx_x i.2.2 2) (jx_x i.2.2 3) (jx_x i.2.2 4)
  | .invokestatic _ => jx_ist Tb i.2.2
  | .invokespecial _ => jx_isp Tb i.2.2
  | .ireturn => jx_ire i.2.2
  | .lreturn => jt_rl
  | .areturn => jt_rr
  | .return_ => jt_rv
  | _ => jt_bad
/-- a word of the tables by its place -/
def jx_w (j : Nat) (w : Cond) : Bool := decide (lw_tbl[j]? = some w) && goodWord w
theorem jx_w_in {j : Nat} {w : Cond} (h : jx_w j w = true) : w ∈ jx_wl := by
  unfold jx_w at h
  simp only [Bool.and_eq_true, decide_eq_true_eq] at h
  exact List.mem_filter.mpr ⟨List.mem_of_getElem? h.1, h.2⟩
/-- a method of the table: itself, its kind (0 static, 1 virtual, 2 constructor), its parameters, the places of its words -/
abbrev jx_Mt : Type := jx_Me × Nat × Nat × List Nat
def jx_mchk (q : jx_Mt) : Bool := jx_w (jx_x q.2.2.2 0) (.code q.1.1 q.1.2.1 q.1.2.2.1 q.1.2.2.2.1) && jx_w (jx_x q.2.2.2 1) (.initialized q.1.1.cls) && decide (q.1.1.cls ≠ "java/lang/invoke/MethodHandle" ∧ q.1.1.cls ≠ "java/lang/invoke/VarHandle" ∧ (parseMethodDescriptor q.1.1.desc).map (fun d => d.parameters.length) = some q.2.2.1) && plainName q.1.1.cls &&
  (match q.2.1 with
  | 0 => jx_w (jx_x q.2.2.2 2) (.static q.1.1) && decide (q.1.2.2.2.2.1 = (0, 0))
  | 1 => jx_w (jx_x q.2.2.2 2) (.instanceMethod q.1.1) && jx_w (jx_x q.2.2.2 3) (.selects q.1.1.cls q.1.1 q.1.1) && decide (q.1.2.2.2.2.1 = (0, 0))
  | _ => jx_w (jx_x q.2.2.2 2) (.instanceMethod q.1.1) && decide (q.1.1.name = "<init>") && decide (q.1.2.2.2.1 = none))
def jx_roomB (M R : jx_Me) : Bool := Nat.ble (M.2.2.2.2.2.1 + 1) R.2.2.2.2.2.1 && Nat.ble (8 + (M.2.2.1 + 11) + M.2.2.2.2.2.2) R.2.2.2.2.2.2
def jx_refd (d : String) : Bool := match parseFieldDescriptor d with
  | some (.object _) => true
  | some (.array _) => true
  | _ => false
def jx_fld (own : String) (index : Nat) (x : List Nat) (r : vw_C) : Bool := Nat.blt (jx_x x 2) r.2.2 && jx_w (jx_x x 3) (.fieldLink own index (r.2.1 (jx_x x 2)).1 (r.2.1 (jx_x x 2)).2.1 (r.2.1 (jx_x x 2)).2.2.1)
def jx_pfc (x : List Nat) (d : String) : Bool := match jx_x x 0 with
  | 0 => decide (parseFieldDescriptor d = some .int)
  | 1 => decide (parseFieldDescriptor d = some .long)
  | 2 => jx_refd d
  | _ => decide (parseFieldDescriptor d = some .boolean)
def jx_off (pc : Nat) (off : Int) (tgt : Nat) : Bool := decide ((pc : Int) + off = (tgt : Int))
def jx_swc (pc : Nat) (tg : Nat → Nat) : List Int → List Nat → Bool
  | [], [] => true
  | o :: os, b :: bs => jx_off pc o (tg b) && jx_swc pc tg os bs
  | _, _ => false
/-- the place of a class' array type in jx_tys -/
def jx_t0 (ci : Nat) : Nat := match ci with
  | 2 => 2
  | _ => 3
def jx_chk (Mt : Nat → jx_Mt) (tg : Nat → Nat) (M : jx_Me) (pc : Nat) (i : jx_I) : Bool := match i.2.1 with
  | .nop => Nat.beq i.1 0 && Nat.beq (tg (jx_x i.2.2 0)) pc
  | _ => decide (decode M.2.1 pc = .ok (i.2.1, i.1)) && match i.2.1 with
    | .iconst n => Nat.beq i.1 1 && decide (Int32.ofInt n = jx_lit i.2.2)
    | .bipush n => Nat.beq i.1 2 && decide ((Int8.ofInt n).toInt32 = jx_lit i.2.2)
    | .sipush n => Nat.beq i.1 3 && decide ((Int16.ofInt n).toInt32 = jx_lit i.2.2)
    | .ldc j => Nat.beq i.1 2 && jx_w (jx_x i.2.2 1) (.constant M.1.cls j (Int32.ofNat (jx_x i.2.2 0)))
    | .ldc_w j => Nat.beq i.1 3 && jx_w (jx_x i.2.2 1) (.constant M.1.cls j (Int32.ofNat (jx_x i.2.2 0)))
    | .ldc2_w j => Nat.beq i.1 3 && jx_w (jx_x i.2.2 1) (.constantLong M.1.cls j (Int64.ofNat (jx_x i.2.2 0)))
    | .lconst _ => Nat.beq i.1 1
    | .iload _ => Nat.beq i.1 2
    | .lload _ => Nat.beq i.1 2
    | .aload _ => Nat.beq i.1 2
    | .iload_n _ => Nat.beq i.1 1
    | .lload_n _ => Nat.beq i.1 1
    | .aload_n _ => Nat.beq i.1 1
    | .istore j => Nat.beq i.1 2 && Nat.blt j M.2.2.1
    | .lstore j => Nat.beq i.1 2 && Nat.blt (j + 1) M.2.2.1
    | .astore j => Nat.beq i.1 2 && Nat.blt j M.2.2.1
    | .istore_n j => Nat.beq i.1 1 && Nat.blt j M.2.2.1
    | .lstore_n j => Nat.beq i.1 1 && Nat.blt (j + 1) M.2.2.1
    | .astore_n j => Nat.beq i.1 1 && Nat.blt j M.2.2.1
    | .iinc j n => Nat.beq i.1 3 && decide (Int32.ofInt n = jx_lit i.2.2) && Nat.blt j M.2.2.1
    | .iadd => Nat.beq i.1 1
    | .isub => Nat.beq i.1 1
    | .imul => Nat.beq i.1 1
    | .iand => Nat.beq i.1 1
    | .ior => Nat.beq i.1 1
    | .ixor => Nat.beq i.1 1
    | .ishl => Nat.beq i.1 1
    | .ishr => Nat.beq i.1 1
    | .iushr => Nat.beq i.1 1
    | .irem => Nat.beq i.1 1
    | .ladd => Nat.beq i.1 1
    | .lsub => Nat.beq i.1 1
    | .lmul => Nat.beq i.1 1
    | .land => Nat.beq i.1 1
    | .lor => Nat.beq i.1 1
    | .lshl => Nat.beq i.1 1
    | .lushr => Nat.beq i.1 1
    | .lcmp => Nat.beq i.1 1
    | .i2l => Nat.beq i.1 1
    | .l2i => Nat.beq i.1 1
    | .i2b => Nat.beq i.1 1
    | .dup => Nat.beq i.1 1
    | .dup2 => Nat.beq i.1 1
    | .pop => Nat.beq i.1 1
    | .ifCond _ off => Nat.beq i.1 3 && jx_off pc off (tg (jx_x i.2.2 0))
    | .if_icmp _ off => Nat.beq i.1 3 && jx_off pc off (tg (jx_x i.2.2 0))
    | .goto off => Nat.beq i.1 3 && jx_off pc off (tg (jx_x i.2.2 0))
    | .tableswitch dflt lo hi offs => jx_off pc dflt (tg (jx_x i.2.2 0)) && decide (hi + 1 = lo + i.2.2.tail.length) && jx_swc pc tg offs.toList i.2.2.tail
    | .getfield index => Nat.beq i.1 3 && (match vwCl[jx_x i.2.2 1]? with | some r => jx_fld M.1.cls index i.2.2 r | none => false)
    | .putfield index => Nat.beq i.1 3 && (match vwCl[jx_x i.2.2 1]? with | some r => jx_fld M.1.cls index i.2.2 r && jx_pfc i.2.2 (r.2.1 (jx_x i.2.2 2)).2.2.1 && (match (r.2.1 (jx_x i.2.2 2)).2.2.2 with | false => true | true => (Nat.beq (jx_x i.2.2 0) 0 || Nat.beq (jx_x i.2.2 0) 2) && decide (M.1.name = "<init>") && decide ((r.2.1 (jx_x i.2.2 2)).1 = M.1.cls)) | none => false)
    | .getstatic index => Nat.beq i.1 3 && (match jx_sts[jx_x i.2.2 0]? with | some q => jx_w (jx_x i.2.2 1) (.fieldLink M.1.cls index q.1 q.2.1 q.2.2) | none => false)
    | .iaload => Nat.beq i.1 1
    | .baload => Nat.beq i.1 1
    | .aaload => Nat.beq i.1 1 && (Nat.beq (jx_x i.2.2 0) 2 || Nat.beq (jx_x i.2.2 0) 5)
    | .iastore => Nat.beq i.1 1
    | .bastore => Nat.beq i.1 1
    | .aastore => Nat.beq i.1 1 && (Nat.beq (jx_x i.2.2 0) 2 || Nat.beq (jx_x i.2.2 0) 5)
    | .arraylength => Nat.beq i.1 1
    | .new index => Nat.beq i.1 3 && (match vwCl[jx_x i.2.2 0]? with | some r => jx_w (jx_x i.2.2 1) (.classLink M.1.cls index r.1) && jx_w (jx_x i.2.2 2) (.instantiable r.1 r.2.2) && jx_w (jx_x i.2.2 3) (.initialized r.1) | none => false)
    | .newarray .int => Nat.beq i.1 2 && jx_w (jx_x i.2.2 0) (.arrayClass .int)
    | .newarray .byte => Nat.beq i.1 2 && jx_w (jx_x i.2.2 0) (.arrayClass .byte)
    | .anewarray index => Nat.beq i.1 3 && (Nat.beq (jx_x i.2.2 0) 2 || Nat.beq (jx_x i.2.2 0) 5) && jx_w (jx_x i.2.2 1) (.classLink M.1.cls index (jx_nm (jx_x i.2.2 0)))
    | .invokevirtual index => Nat.beq i.1 3 && Nat.beq (Mt (jx_x i.2.2 2)).2.1 1 && Nat.beq ((Mt (jx_x i.2.2 2)).2.2.1 + 1) (jx_x i.2.2 3) && jx_roomB (Mt (jx_x i.2.2 2)).1 M && (match vwCl[jx_x i.2.2 1]? with | some r => decide (r.1 = (Mt (jx_x i.2.2 2)).1.1.cls) | none => false) && jx_w (jx_x i.2.2 5) (.methodLink M.1.cls index (Mt (jx_x i.2.2 2)).1.1) && jx_mchk (Mt (jx_x i.2.2 2))
    | .invokestatic index => Nat.beq i.1 3 && (match jx_x i.2.2 0 with
      | 0 => Nat.beq (Mt (jx_x i.2.2 1)).2.1 0 && Nat.beq (Mt (jx_x i.2.2 1)).2.2.1 (jx_x i.2.2 2) && jx_roomB (Mt (jx_x i.2.2 1)).1 M && jx_w (jx_x i.2.2 4) (.methodLink M.1.cls index (Mt (jx_x i.2.2 1)).1.1) && jx_mchk (Mt (jx_x i.2.2 1))
      | 1 => Nat.beq (Mt (jx_x i.2.2 1)).2.1 0 && Nat.beq (Mt (jx_x i.2.2 1)).2.2.1 (jx_x i.2.2 2) && jx_roomB (Mt (jx_x i.2.2 1)).1 M && decide (jx_nest[jx_x i.2.2 4]? = some (M.1.cls, index, (Mt (jx_x i.2.2 1)).1.1, "TornStreams")) && jx_mchk (Mt (jx_x i.2.2 1))
      | _ => jx_w (jx_x i.2.2 1) (.methodLink M.1.cls index arraycopyName) && jx_w (jx_x i.2.2 2) (.native arraycopyName) && jx_w (jx_x i.2.2 3) (.static arraycopyName) && jx_w (jx_x i.2.2 4) (.initialized "java/lang/System") && Nat.ble 1 M.2.2.2.2.2.1 && Nat.ble 18 M.2.2.2.2.2.2)
    | .invokespecial index => Nat.beq i.1 3 && (match jx_x i.2.2 0 with
      | 0 => Nat.beq (Mt (jx_x i.2.2 1)).2.1 2 && Nat.beq ((Mt (jx_x i.2.2 1)).2.2.1 + 1) (jx_x i.2.2 2) && jx_roomB (Mt (jx_x i.2.2 1)).1 M && jx_w (jx_x i.2.2 3) (.methodLink M.1.cls index (Mt (jx_x i.2.2 1)).1.1) && jx_mchk (Mt (jx_x i.2.2 1))
      | 1 => Nat.beq (Mt (jx_x i.2.2 1)).2.1 2 && Nat.beq ((Mt (jx_x i.2.2 1)).2.2.1 + 1) (jx_x i.2.2 2) && jx_roomB (Mt (jx_x i.2.2 1)).1 M && decide (jx_nest[jx_x i.2.2 3]? = some (M.1.cls, index, (Mt (jx_x i.2.2 1)).1.1, "TornStreams")) && jx_mchk (Mt (jx_x i.2.2 1))
      | _ => jx_w (jx_x i.2.2 1) (.methodLink M.1.cls index Lib.objectInit) && jx_w (jx_x i.2.2 2) (.instanceMethod Lib.objectInit) && jx_w (jx_x i.2.2 3) (.code Lib.objectInit ⟨#[0xb1]⟩ 1 none) && Nat.ble 1 M.2.2.2.2.2.1 && Nat.ble 12 M.2.2.2.2.2.2)
    | .ireturn => Nat.beq i.1 1 && (match jx_x i.2.2 0 with | 0 => decide (M.2.2.2.1 = some .int) | _ => decide (M.2.2.2.1 = some .boolean))
    | .lreturn => Nat.beq i.1 1 && decide (M.2.2.2.1 = some .long)
    | .areturn => Nat.beq i.1 1 && (match M.2.2.2.1 with | some (.object _) => true | _ => false)
    | .return_ => Nat.beq i.1 1 && decide (M.2.2.2.1 = none)
    | _ => false
end
section
/-! THE SIMULATION: checked blocks over the plain machine are sound over the kit's -/
theorem jx_cin {D : String} {T : u_T} {N : Nat} (ixs : List Nat) (h : (List.range N).all (fun k => jx_w (ixs.getD k 0) (u_lay D T k)) = true) : ∀ w ∈ u_ws D T N, w ∈ jx_wl := by
  intro w hw
  obtain ⟨k, hk, rfl⟩ := List.mem_map.mp hw
  exact jx_w_in (List.all_eq_true.mp h k hk)
theorem jx_in0 : ∀ w ∈ u_ws RX0 TX0 9, w ∈ jx_wl := jx_cin [120, 122, 124, 126, 128, 130, 132, 134, 136] (by decide +kernel)
theorem jx_in1 : ∀ w ∈ u_ws RX1 TX1 6, w ∈ jx_wl := jx_cin [157, 159, 161, 163, 165, 167] (by decide +kernel)
theorem jx_in2 : ∀ w ∈ u_ws RX2 TX2 12, w ∈ jx_wl := jx_cin [303, 305, 307, 309, 311, 313, 315, 317, 319, 321, 323, 325] (by decide +kernel)
theorem jx_in3 : ∀ w ∈ u_ws RX3 TX3 15, w ∈ jx_wl := jx_cin [253, 255, 257, 259, 261, 263, 265, 267, 269, 271, 273, 275, 277, 279, 281] (by decide +kernel)
theorem jx_in4 : ∀ w ∈ u_ws RX4 TX4 4, w ∈ jx_wl := jx_cin [212, 214, 216, 218] (by decide +kernel)
theorem jx_in5 : ∀ w ∈ u_ws RX5 TX5 6, w ∈ jx_wl := jx_cin [340, 342, 344, 346, 348, 350] (by decide +kernel)
theorem jx_in6 : ∀ w ∈ u_ws RX6 TX6 2, w ∈ jx_wl := jx_cin [183, 185] (by decide +kernel)
theorem jx_in7 : ∀ w ∈ u_ws RX7 TX7 8, w ∈ jx_wl := jx_cin [364, 366, 368, 370, 372, 374, 376, 378] (by decide +kernel)
theorem jx_in8 : ∀ w ∈ u_ws RX8 TX8 17, w ∈ jx_wl := jx_cin [868, 870, 872, 874, 876, 878, 880, 882, 884, 886, 888, 890, 892, 894, 896, 898, 900] (by decide +kernel)
def jx_cok (D : String) (T : u_T) (N : Nat) (ci : Nat) : Prop := (∀ w ∈ u_ws D T N, w ∈ jx_wl) ∧ ∃ ty0 : Nat → FieldType, (∀ k, k < N → parseFieldDescriptor (T k).2.2.1 = some (ty0 k)) ∧ (∀ a, a < N → ∀ b, b < N → a ≠ b → (T a).2.1 ≠ (T b).2.1) ∧ ∀ j, j < N → defaultValue (ty0 j) = vp_V (jx_born ci) j
theorem jx_cok0 : jx_cok RX0 TX0 9 0 := ⟨jx_in0, tyX0, tyX0_ok, nmX0, by decide +kernel⟩
theorem jx_cok1 : jx_cok RX1 TX1 6 1 := ⟨jx_in1, tyX1, tyX1_ok, nmX1, by decide +kernel⟩
theorem jx_cok2 : jx_cok RX2 TX2 12 2 := ⟨jx_in2, tyX2, tyX2_ok, nmX2, by decide +kernel⟩
theorem jx_cok3 : jx_cok RX3 TX3 15 3 := ⟨jx_in3, tyX3, tyX3_ok, nmX3, by decide +kernel⟩
theorem jx_cok4 : jx_cok RX4 TX4 4 4 := ⟨jx_in4, tyX4, tyX4_ok, nmX4, by decide +kernel⟩
theorem jx_cok5 : jx_cok RX5 TX5 6 5 := ⟨jx_in5, tyX5, tyX5_ok, nmX5, by decide +kernel⟩
theorem jx_cok6 : jx_cok RX6 TX6 2 6 := ⟨jx_in6, tyX6, tyX6_ok, nmX6, by decide +kernel⟩
theorem jx_cok7 : jx_cok RX7 TX7 8 7 := ⟨jx_in7, tyX7, tyX7_ok, nmX7, by decide +kernel⟩
theorem jx_cok8 : jx_cok RX8 TX8 17 8 := ⟨jx_in8, tyX8, tyX8_ok, nmX8, by decide +kernel⟩
theorem jx_cls {ci : Nat} {r : vw_C} (h : vwCl[ci]? = some r) : jx_cok r.1 r.2.1 r.2.2 ci := by
  match ci, h with
  | 0, h => cases h; exact jx_cok0
  | 1, h => cases h; exact jx_cok1
  | 2, h => cases h; exact jx_cok2
  | 3, h => cases h; exact jx_cok3
  | 4, h => cases h; exact jx_cok4
  | 5, h => cases h; exact jx_cok5
  | 6, h => cases h; exact jx_cok6
  | 7, h => cases h; exact jx_cok7
  | 8, h => cases h; exact jx_cok8
  | n + 9, h => simp [vwCl] at h
def jx_Tb (Mt : Nat → jx_Mt) : Nat → jx_Me := fun y => (Mt y).1
theorem jx_mchk_ok {q : jx_Mt} (h : jx_mchk q = true) : jx_mok q.1 q.2.2.1 ∧ (q.2.1 = 0 → Cond.static q.1.1 ∈ jx_wl ∧ q.1.2.2.2.2.1 = (0, 0)) ∧ (q.2.1 = 1 → Cond.instanceMethod q.1.1 ∈ jx_wl ∧ Cond.selects q.1.1.cls q.1.1 q.1.1 ∈ jx_wl ∧ q.1.2.2.2.2.1 = (0, 0)) ∧ (q.2.1 = 2 → Cond.instanceMethod q.1.1 ∈ jx_wl ∧ q.1.1.name = "<init>" ∧ q.1.2.2.2.1 = none) := by
  unfold jx_mchk at h
  simp only [Bool.and_eq_true, decide_eq_true_eq] at h
  obtain ⟨⟨⟨⟨h1, h2⟩, h3⟩, h4⟩, h5⟩ := h
  refine ⟨⟨jx_w_in h1, jx_w_in h2, h3, h4⟩, fun e => ?_, fun e => ?_, fun e => ?_⟩
  · rw [e] at h5
    simp only [Bool.and_eq_true, decide_eq_true_eq] at h5
    exact ⟨jx_w_in h5.1, h5.2⟩
  · rw [e] at h5
    simp only [Bool.and_eq_true, decide_eq_true_eq] at h5
    exact ⟨jx_w_in h5.1.1, jx_w_in h5.1.2, h5.2⟩
  · rw [e] at h5
    simp only [Bool.and_eq_true, decide_eq_true_eq] at h5
    exact ⟨jx_w_in h5.1.1, h5.1.2, h5.2⟩
theorem jx_roomB_ok {M R : jx_Me} (h : jx_roomB M R = true) : jx_room M (jx_rm R) := by
  unfold jx_roomB at h
  simp only [Bool.and_eq_true] at h
  exact ⟨Nat.le_of_ble_eq_true h.1, Nat.le_of_ble_eq_true h.2⟩
theorem jx_swc_ok {pc : Nat} {tg : Nat → Nat} : ∀ {os : List Int} {bs : List Nat}, jx_swc pc tg os bs = true → os.length = bs.length ∧ ∀ (i b : Nat), bs[i]? = some b → ∃ off, os[i]? = some off ∧ (pc : Int) + off = (tg b : Int)
  | [], [], _ => ⟨rfl, fun i b h => (by cases h)⟩
  | o :: os, b :: bs, h => by
    unfold jx_swc at h
    simp only [Bool.and_eq_true] at h
    obtain ⟨h1, h2⟩ := jx_swc_ok h.2
    refine ⟨by simp [h1], fun i b' hb => ?_⟩
    match i, hb with
    | 0, hb => cases hb; exact ⟨o, rfl, of_decide_eq_true h.1⟩
    | i + 1, hb => exact h2 i b' hb
  | [], _ :: _, h => (by cases h)
  | _ :: _, [], h => (by cases h)
theorem jx_tyat {G : jx_G} {ci : Nat} (h : (Nat.beq ci 2 || Nat.beq ci 5) = true) : (jx_tys G)[jx_t0 ci]? = some (G.2.1 (.object (jx_nm ci)), .object (jx_nm ci)) := by
  simp only [Bool.or_eq_true] at h
  rcases h with h | h
  · rw [Nat.eq_of_beq_eq_true h]; rfl
  · rw [Nat.eq_of_beq_eq_true h]; rfl
theorem jx_clat {ci : Nat} (h : (Nat.beq ci 2 || Nat.beq ci 5) = true) : ∃ (D : String) (T : u_T) (N : Nat), vwCl[ci]? = some (D, T, N) := by
  simp only [Bool.or_eq_true] at h
  rcases h with h | h
  · rw [Nat.eq_of_beq_eq_true h]; exact ⟨_, _, _, rfl⟩
  · rw [Nat.eq_of_beq_eq_true h]; exact ⟨_, _, _, rfl⟩
theorem jx_aoat {G : jx_G} {s : State} {ci : Nat} (hF : jx_F G s) (h : (Nat.beq ci 2 || Nat.beq ci 5) = true) : va_AO (jx_nm ci) s := by
  simp only [Bool.or_eq_true] at h
  rcases h with h | h
  · rw [Nat.eq_of_beq_eq_true h]; exact hF.2.2.2.1
  · rw [Nat.eq_of_beq_eq_true h]; exact hF.2.2.2.2.1
theorem jx_refd_ok {d : String} (h : jx_refd d = true) : (∃ n, parseFieldDescriptor d = some (.object n)) ∨ ∃ t, parseFieldDescriptor d = some (.array t) := by
  unfold jx_refd at h
  split at h
  · exact Or.inl ⟨_, by assumption⟩
  · exact Or.inr ⟨_, by assumption⟩
  · cases h
section JXM
variable {p : Program} {l : Launch} {e : Env} {s : State} {m : MethodId} {args : Array Value} {below : List Frame} {meth : Method} {c : Code} {Φ : State → Prop} {G : jx_G} {M : jx_Me} {C : jx_C} {J : jx_J} {q : jx_Q} {K : jx_K} {Mt : Nat → jx_Mt} {tg : Nat → Nat} {pc : Nat}
set_option maxHeartbeats 4000000 in
theorem jx_chk_ok (X : jx_X p s m args meth c (jx_rm M) G M.1.cls M.1.name M.2.1 M.2.2.1 M.2.2.2.2.1.1 M.2.2.2.2.1.2) (hC : jx_CS l G (jx_Tb Mt) C) (hq : jx_RS p l e (jx_rm M) s m args below meth c Φ G M.2.2.2.2.1.1 M.2.2.2.2.1.2 M.2.1 M.2.2.2.1 q) (hj : ∀ b, jx_KS p l e (jx_rm M) s m args below meth c Φ G M.2.2.1 M.2.2.2.2.1.1 M.2.2.2.2.1.2 (tg b) (J b)) {i : jx_I} (hchk : jx_chk Mt tg M pc i = true) (hk : jx_KS p l e (jx_rm M) s m args below meth c Φ G M.2.2.1 M.2.2.2.2.1.1 M.2.2.2.2.1.2 (pc + i.1) (K)) : jx_KS p l e (jx_rm M) s m args below meth c Φ G M.2.2.1 M.2.2.2.2.1.1 M.2.2.2.2.1.2 (pc) (jx_tr (jx_Tb Mt) i C J q K) := by
  obtain ⟨len, ins, x⟩ := i
  cases ins
  case nop =>
    simp only [jx_chk, Bool.and_eq_true] at hchk
    have h2 := hj (jx_x x 0)
    rw [Nat.eq_of_beq_eq_true hchk.2] at h2
    exact h2
  case iconst n =>
    simp only [jx_chk, Bool.and_eq_true, decide_eq_true_eq] at hchk
    obtain ⟨d, h1, h2⟩ := hchk
    cases (Nat.eq_of_beq_eq_true h1)
    exact js_iconst (C := C) (J := J) (q := q) (K := K) X h2 d hk
  case bipush n =>
    simp only [jx_chk, Bool.and_eq_true, decide_eq_true_eq] at hchk
    obtain ⟨d, h1, h2⟩ := hchk
    cases (Nat.eq_of_beq_eq_true h1)
    exact js_bipush (C := C) (J := J) (q := q) (K := K) X h2 d hk
  case sipush n =>
    simp only [jx_chk, Bool.and_eq_true, decide_eq_true_eq] at hchk
    obtain ⟨d, h1, h2⟩ := hchk
    cases (Nat.eq_of_beq_eq_true h1)
    exact js_sipush (C := C) (J := J) (q := q) (K := K) X h2 d hk
  case ldc n =>
    simp only [jx_chk, Bool.and_eq_true, decide_eq_true_eq] at hchk
    obtain ⟨d, h1, h2⟩ := hchk
    cases (Nat.eq_of_beq_eq_true h1)
    exact js_ldc (C := C) (J := J) (q := q) (K := K) X (jx_w_in h2) d hk
  case ldc_w n =>
    simp only [jx_chk, Bool.and_eq_true, decide_eq_true_eq] at hchk
    obtain ⟨d, h1, h2⟩ := hchk
    cases (Nat.eq_of_beq_eq_true h1)
    exact js_ldcw (C := C) (J := J) (q := q) (K := K) X (jx_w_in h2) d hk
  case ldc2_w n =>
    simp only [jx_chk, Bool.and_eq_true, decide_eq_true_eq] at hchk
    obtain ⟨d, h1, h2⟩ := hchk
    cases (Nat.eq_of_beq_eq_true h1)
    exact js_ldc2 (C := C) (J := J) (q := q) (K := K) X (jx_w_in h2) d hk
  case lconst n =>
    simp only [jx_chk, Bool.and_eq_true, decide_eq_true_eq] at hchk
    obtain ⟨d, h1⟩ := hchk
    cases (Nat.eq_of_beq_eq_true h1)
    exact js_lconst (C := C) (J := J) (q := q) (K := K) X rfl d hk
  case iload n =>
    simp only [jx_chk, Bool.and_eq_true, decide_eq_true_eq] at hchk
    obtain ⟨d, h1⟩ := hchk
    cases (Nat.eq_of_beq_eq_true h1)
    exact js_iload (C := C) (J := J) (q := q) (K := K) X d hk
  case iload_n n =>
    simp only [jx_chk, Bool.and_eq_true, decide_eq_true_eq] at hchk
    obtain ⟨d, h1⟩ := hchk
    cases (Nat.eq_of_beq_eq_true h1)
    exact js_iload_n (C := C) (J := J) (q := q) (K := K) X d hk
  case istore n =>
    simp only [jx_chk, Bool.and_eq_true, decide_eq_true_eq] at hchk
    obtain ⟨d, h1, h2⟩ := hchk
    cases (Nat.eq_of_beq_eq_true h1)
    exact js_istore (C := C) (J := J) (q := q) (K := K) X (Nat.le_of_ble_eq_true h2) d hk
  case istore_n n =>
    simp only [jx_chk, Bool.and_eq_true, decide_eq_true_eq] at hchk
    obtain ⟨d, h1, h2⟩ := hchk
    cases (Nat.eq_of_beq_eq_true h1)
    exact js_istore_n (C := C) (J := J) (q := q) (K := K) X (Nat.le_of_ble_eq_true h2) d hk
  case lload n =>
    simp only [jx_chk, Bool.and_eq_true, decide_eq_true_eq] at hchk
    obtain ⟨d, h1⟩ := hchk
    cases (Nat.eq_of_beq_eq_true h1)
    exact js_lload (C := C) (J := J) (q := q) (K := K) X d hk
  case lload_n n =>
    simp only [jx_chk, Bool.and_eq_true, decide_eq_true_eq] at hchk
    obtain ⟨d, h1⟩ := hchk
    cases (Nat.eq_of_beq_eq_true h1)
    exact js_lload_n (C := C) (J := J) (q := q) (K := K) X d hk
  case lstore n =>
    simp only [jx_chk, Bool.and_eq_true, decide_eq_true_eq] at hchk
    obtain ⟨d, h1, h2⟩ := hchk
    cases (Nat.eq_of_beq_eq_true h1)
    exact js_lstore (C := C) (J := J) (q := q) (K := K) X (Nat.le_of_ble_eq_true h2) d hk
  case lstore_n n =>
    simp only [jx_chk, Bool.and_eq_true, decide_eq_true_eq] at hchk
    obtain ⟨d, h1, h2⟩ := hchk
    cases (Nat.eq_of_beq_eq_true h1)
    exact js_lstore_n (C := C) (J := J) (q := q) (K := K) X (Nat.le_of_ble_eq_true h2) d hk
  case aload n =>
    simp only [jx_chk, Bool.and_eq_true, decide_eq_true_eq] at hchk
    obtain ⟨d, h1⟩ := hchk
    cases (Nat.eq_of_beq_eq_true h1)
    exact js_aload (C := C) (J := J) (q := q) (K := K) X d hk
  case aload_n n =>
    simp only [jx_chk, Bool.and_eq_true, decide_eq_true_eq] at hchk
    obtain ⟨d, h1⟩ := hchk
    cases (Nat.eq_of_beq_eq_true h1)
    exact js_aload_n (C := C) (J := J) (q := q) (K := K) X d hk
  case astore n =>
    simp only [jx_chk, Bool.and_eq_true, decide_eq_true_eq] at hchk
    obtain ⟨d, h1, h2⟩ := hchk
    cases (Nat.eq_of_beq_eq_true h1)
    exact js_astore (C := C) (J := J) (q := q) (K := K) X (Nat.le_of_ble_eq_true h2) d hk
  case astore_n n =>
    simp only [jx_chk, Bool.and_eq_true, decide_eq_true_eq] at hchk
    obtain ⟨d, h1, h2⟩ := hchk
    cases (Nat.eq_of_beq_eq_true h1)
    exact js_astore_n (C := C) (J := J) (q := q) (K := K) X (Nat.le_of_ble_eq_true h2) d hk
  case iinc j n =>
    simp only [jx_chk, Bool.and_eq_true, decide_eq_true_eq] at hchk
    obtain ⟨d, ⟨h1, h2⟩, h3⟩ := hchk
    cases (Nat.eq_of_beq_eq_true h1)
    exact js_iinc (C := C) (J := J) (q := q) (K := K) X h2 (Nat.le_of_ble_eq_true h3) d hk
  case iadd =>
    simp only [jx_chk, Bool.and_eq_true, decide_eq_true_eq] at hchk
    obtain ⟨d, h1⟩ := hchk
    cases (Nat.eq_of_beq_eq_true h1)
    exact js_iadd (C := C) (J := J) (q := q) (K := K) X d hk
  case isub =>
    simp only [jx_chk, Bool.and_eq_true, decide_eq_true_eq] at hchk
    obtain ⟨d, h1⟩ := hchk
    cases (Nat.eq_of_beq_eq_true h1)
    exact js_isub (C := C) (J := J) (q := q) (K := K) X d hk
  case imul =>
    simp only [jx_chk, Bool.and_eq_true, decide_eq_true_eq] at hchk
    obtain ⟨d, h1⟩ := hchk
    cases (Nat.eq_of_beq_eq_true h1)
    exact js_imul (C := C) (J := J) (q := q) (K := K) X d hk
  case iand =>
    simp only [jx_chk, Bool.and_eq_true, decide_eq_true_eq] at hchk
    obtain ⟨d, h1⟩ := hchk
    cases (Nat.eq_of_beq_eq_true h1)
    exact js_iand (C := C) (J := J) (q := q) (K := K) X d hk
  case ior =>
    simp only [jx_chk, Bool.and_eq_true, decide_eq_true_eq] at hchk
    obtain ⟨d, h1⟩ := hchk
    cases (Nat.eq_of_beq_eq_true h1)
    exact js_ior (C := C) (J := J) (q := q) (K := K) X d hk
  case ixor =>
    simp only [jx_chk, Bool.and_eq_true, decide_eq_true_eq] at hchk
    obtain ⟨d, h1⟩ := hchk
    cases (Nat.eq_of_beq_eq_true h1)
    exact js_ixor (C := C) (J := J) (q := q) (K := K) X d hk
  case ishl =>
    simp only [jx_chk, Bool.and_eq_true, decide_eq_true_eq] at hchk
    obtain ⟨d, h1⟩ := hchk
    cases (Nat.eq_of_beq_eq_true h1)
    exact js_ishl (C := C) (J := J) (q := q) (K := K) X d hk
  case ishr =>
    simp only [jx_chk, Bool.and_eq_true, decide_eq_true_eq] at hchk
    obtain ⟨d, h1⟩ := hchk
    cases (Nat.eq_of_beq_eq_true h1)
    exact js_ishr (C := C) (J := J) (q := q) (K := K) X d hk
  case iushr =>
    simp only [jx_chk, Bool.and_eq_true, decide_eq_true_eq] at hchk
    obtain ⟨d, h1⟩ := hchk
    cases (Nat.eq_of_beq_eq_true h1)
    exact js_iushr (C := C) (J := J) (q := q) (K := K) X d hk
  case irem =>
    simp only [jx_chk, Bool.and_eq_true, decide_eq_true_eq] at hchk
    obtain ⟨d, h1⟩ := hchk
    cases (Nat.eq_of_beq_eq_true h1)
    exact js_irem (C := C) (J := J) (q := q) (K := K) X d hk
  case ladd =>
    simp only [jx_chk, Bool.and_eq_true, decide_eq_true_eq] at hchk
    obtain ⟨d, h1⟩ := hchk
    cases (Nat.eq_of_beq_eq_true h1)
    exact js_ladd (C := C) (J := J) (q := q) (K := K) X d hk
  case lsub =>
    simp only [jx_chk, Bool.and_eq_true, decide_eq_true_eq] at hchk
    obtain ⟨d, h1⟩ := hchk
    cases (Nat.eq_of_beq_eq_true h1)
    exact js_lsub (C := C) (J := J) (q := q) (K := K) X d hk
  case lmul =>
    simp only [jx_chk, Bool.and_eq_true, decide_eq_true_eq] at hchk
    obtain ⟨d, h1⟩ := hchk
    cases (Nat.eq_of_beq_eq_true h1)
    exact js_lmul (C := C) (J := J) (q := q) (K := K) X d hk
  case land =>
    simp only [jx_chk, Bool.and_eq_true, decide_eq_true_eq] at hchk
    obtain ⟨d, h1⟩ := hchk
    cases (Nat.eq_of_beq_eq_true h1)
    exact js_land (C := C) (J := J) (q := q) (K := K) X d hk
  case lor =>
    simp only [jx_chk, Bool.and_eq_true, decide_eq_true_eq] at hchk
    obtain ⟨d, h1⟩ := hchk
    cases (Nat.eq_of_beq_eq_true h1)
    exact js_lor (C := C) (J := J) (q := q) (K := K) X d hk
  case lshl =>
    simp only [jx_chk, Bool.and_eq_true, decide_eq_true_eq] at hchk
    obtain ⟨d, h1⟩ := hchk
    cases (Nat.eq_of_beq_eq_true h1)
    exact js_lshl (C := C) (J := J) (q := q) (K := K) X d hk
  case lushr =>
    simp only [jx_chk, Bool.and_eq_true, decide_eq_true_eq] at hchk
    obtain ⟨d, h1⟩ := hchk
    cases (Nat.eq_of_beq_eq_true h1)
    exact js_lushr (C := C) (J := J) (q := q) (K := K) X d hk
  case lcmp =>
    simp only [jx_chk, Bool.and_eq_true, decide_eq_true_eq] at hchk
    obtain ⟨d, h1⟩ := hchk
    cases (Nat.eq_of_beq_eq_true h1)
    exact js_lcmp (C := C) (J := J) (q := q) (K := K) X d hk
  case i2l =>
    simp only [jx_chk, Bool.and_eq_true, decide_eq_true_eq] at hchk
    obtain ⟨d, h1⟩ := hchk
    cases (Nat.eq_of_beq_eq_true h1)
    exact js_i2l (C := C) (J := J) (q := q) (K := K) X d hk
  case l2i =>
    simp only [jx_chk, Bool.and_eq_true, decide_eq_true_eq] at hchk
    obtain ⟨d, h1⟩ := hchk
    cases (Nat.eq_of_beq_eq_true h1)
    exact js_l2i (C := C) (J := J) (q := q) (K := K) X d hk
  case i2b =>
    simp only [jx_chk, Bool.and_eq_true, decide_eq_true_eq] at hchk
    obtain ⟨d, h1⟩ := hchk
    cases (Nat.eq_of_beq_eq_true h1)
    exact js_i2b (C := C) (J := J) (q := q) (K := K) X d hk
  case dup =>
    simp only [jx_chk, Bool.and_eq_true, decide_eq_true_eq] at hchk
    obtain ⟨d, h1⟩ := hchk
    cases (Nat.eq_of_beq_eq_true h1)
    exact js_dup (C := C) (J := J) (q := q) (K := K) X d hk
  case dup2 =>
    simp only [jx_chk, Bool.and_eq_true, decide_eq_true_eq] at hchk
    obtain ⟨d, h1⟩ := hchk
    cases (Nat.eq_of_beq_eq_true h1)
    exact js_dup2 (C := C) (J := J) (q := q) (K := K) X d hk
  case pop =>
    simp only [jx_chk, Bool.and_eq_true, decide_eq_true_eq] at hchk
    obtain ⟨d, h1⟩ := hchk
    cases (Nat.eq_of_beq_eq_true h1)
    exact js_pop (C := C) (J := J) (q := q) (K := K) X d hk
  case ifCond cd off =>
    simp only [jx_chk, Bool.and_eq_true, decide_eq_true_eq] at hchk
    obtain ⟨d, h1, h2⟩ := hchk
    cases (Nat.eq_of_beq_eq_true h1)
    have ht := of_decide_eq_true h2
    cases cd
    case eq => exact js_ifeq (C := C) (J := J) (q := q) (K := K) X ht (hj _) d hk
    case ne => exact js_ifne (C := C) (J := J) (q := q) (K := K) X ht (hj _) d hk
    case lt => exact js_iflt (C := C) (J := J) (q := q) (K := K) X ht (hj _) d hk
    case ge => exact js_ifge (C := C) (J := J) (q := q) (K := K) X ht (hj _) d hk
    case gt => exact js_ifgt (C := C) (J := J) (q := q) (K := K) X ht (hj _) d hk
    case le => exact js_ifle (C := C) (J := J) (q := q) (K := K) X ht (hj _) d hk
  case if_icmp cd off =>
    simp only [jx_chk, Bool.and_eq_true, decide_eq_true_eq] at hchk
    obtain ⟨d, h1, h2⟩ := hchk
    cases (Nat.eq_of_beq_eq_true h1)
    have ht := of_decide_eq_true h2
    cases cd
    case eq => exact js_cmpeq (C := C) (J := J) (q := q) (K := K) X ht (hj _) d hk
    case ne => exact js_cmpne (C := C) (J := J) (q := q) (K := K) X ht (hj _) d hk
    case lt => exact js_cmplt (C := C) (J := J) (q := q) (K := K) X ht (hj _) d hk
    case ge => exact js_cmpge (C := C) (J := J) (q := q) (K := K) X ht (hj _) d hk
    case gt => exact js_cmpgt (C := C) (J := J) (q := q) (K := K) X ht (hj _) d hk
    case le => exact js_cmple (C := C) (J := J) (q := q) (K := K) X ht (hj _) d hk
  case goto off =>
    simp only [jx_chk, Bool.and_eq_true, decide_eq_true_eq] at hchk
    obtain ⟨d, h1, h2⟩ := hchk
    cases (Nat.eq_of_beq_eq_true h1)
    exact js_goto (C := C) (J := J) (q := q) (K := K) X (of_decide_eq_true h2) (hj _) d
  case tableswitch dflt lo hi offs =>
    simp only [jx_chk, Bool.and_eq_true, decide_eq_true_eq] at hchk
    obtain ⟨d, ⟨h1, h2⟩, h3⟩ := hchk
    obtain ⟨g1, g2⟩ := jx_swc_ok h3
    exact js_sw (C := C) (J := J) (q := q) (K := K) X (tg := tg) (by rw [← Array.length_toList]; exact g1) h2 (of_decide_eq_true h1) (fun i b hb => by obtain ⟨off, e1, e2⟩ := g2 i b hb; exact ⟨off, by rw [← Array.getElem?_toList]; exact e1, e2⟩) hj d
  case getfield index =>
    simp only [jx_chk, Bool.and_eq_true, decide_eq_true_eq] at hchk
    obtain ⟨d, h1, h2⟩ := hchk
    cases (Nat.eq_of_beq_eq_true h1)
    split at h2
    · rename_i r hr
      unfold jx_fld at h2
      simp only [Bool.and_eq_true] at h2
      have hc := jx_cls hr
      show jx_KS _ _ _ _ _ _ _ _ _ _ _ _ _ _ _ _ (jx_gf x C J q K)
      unfold jx_gf
      generalize jx_x x 0 = z
      rcases z with _ | _ | z
      · exact js_gfi (C := C) (J := J) (q := q) (K := K) X hr hc.1 (Nat.le_of_ble_eq_true h2.1) (jx_w_in h2.2) d hk
      · exact js_gfl (C := C) (J := J) (q := q) (K := K) X hr hc.1 (Nat.le_of_ble_eq_true h2.1) (jx_w_in h2.2) d hk
      · exact js_gfr (C := C) (J := J) (q := q) (K := K) X hr hc.1 (Nat.le_of_ble_eq_true h2.1) (jx_w_in h2.2) d hk
    · cases h2
  case putfield index =>
    simp only [jx_chk, Bool.and_eq_true, decide_eq_true_eq] at hchk
    obtain ⟨d, h1, h2⟩ := hchk
    cases (Nat.eq_of_beq_eq_true h1)
    split at h2
    · rename_i r hr
      simp only [Bool.and_eq_true] at h2
      obtain ⟨⟨h3, h4⟩, h5⟩ := h2
      unfold jx_fld at h3
      simp only [Bool.and_eq_true] at h3
      obtain ⟨hc1, ty0, hc2, hc3, -⟩ := jx_cls hr
      have hlt := Nat.le_of_ble_eq_true h3.1
      have hw := jx_w_in h3.2
      show jx_KS _ _ _ _ _ _ _ _ _ _ _ _ _ _ _ _ (jx_pf x C J q K)
      unfold jx_pfc at h4
      unfold jx_pf
      generalize jx_x x 0 = z at h4 h5 ⊢
      cases hfin : (r.2.1 (jx_x x 2)).2.2.2 with
      | false =>
        rcases z with _ | _ | _ | z
        · exact js_pfi (C := C) (J := J) (q := q) (K := K) X hr hc1 ty0 hc2 hc3 hlt hw hfin (of_decide_eq_true h4) d hk
        · exact js_pfl (C := C) (J := J) (q := q) (K := K) X hr hc1 ty0 hc2 hc3 hlt hw hfin (of_decide_eq_true h4) d hk
        · exact js_pfr (C := C) (J := J) (q := q) (K := K) X hr hc1 ty0 hc2 hc3 hlt hw hfin (jx_refd_ok h4) d hk
        · exact js_pfz (C := C) (J := J) (q := q) (K := K) X hr hc1 ty0 hc2 hc3 hlt hw hfin (of_decide_eq_true h4) d hk
      | true =>
        rw [hfin] at h5
        simp only [Bool.and_eq_true, Bool.or_eq_true, decide_eq_true_eq] at h5
        obtain ⟨⟨h6, h7⟩, h8⟩ := h5
        rcases h6 with h6 | h6
        · rw [Nat.eq_of_beq_eq_true h6] at h4 ⊢
          exact js_pfFi (C := C) (J := J) (q := q) (K := K) X hr hc1 ty0 hc2 hc3 hlt hw hfin h7 h8 (of_decide_eq_true h4) d hk
        · rw [Nat.eq_of_beq_eq_true h6] at h4 ⊢
          exact js_pfFr (C := C) (J := J) (q := q) (K := K) X hr hc1 ty0 hc2 hc3 hlt hw hfin h7 h8 (jx_refd_ok h4) d hk
    · cases h2
  case getstatic index =>
    simp only [jx_chk, Bool.and_eq_true, decide_eq_true_eq] at hchk
    obtain ⟨d, h1, h2⟩ := hchk
    cases (Nat.eq_of_beq_eq_true h1)
    split at h2
    · rename_i r hr
      exact js_gs (C := C) (J := J) (q := q) (K := K) X hr (jx_w_in h2) d hk
    · cases h2
  case iaload =>
    simp only [jx_chk, Bool.and_eq_true, decide_eq_true_eq] at hchk
    obtain ⟨d, h1⟩ := hchk
    cases (Nat.eq_of_beq_eq_true h1)
    show jx_KS _ _ _ _ _ _ _ _ _ _ _ _ _ _ _ _ (jx_al0 x C J q K)
    unfold jx_al0
    generalize jx_x x 0 = z
    rcases z with _ | z
    · exact js_iald (C := C) (J := J) (q := q) (K := K) X d hk
    · exact js_rald (C := C) (J := J) (q := q) (K := K) X d hk
  case baload =>
    simp only [jx_chk, Bool.and_eq_true, decide_eq_true_eq] at hchk
    obtain ⟨d, h1⟩ := hchk
    cases (Nat.eq_of_beq_eq_true h1)
    exact js_bald (C := C) (J := J) (q := q) (K := K) X d hk
  case aaload =>
    simp only [jx_chk, Bool.and_eq_true, decide_eq_true_eq] at hchk
    obtain ⟨d, h1, h2⟩ := hchk
    cases (Nat.eq_of_beq_eq_true h1)
    exact js_aald (C := C) (J := J) (q := q) (K := K) X (jx_tyat h2) d hk
  case iastore =>
    simp only [jx_chk, Bool.and_eq_true, decide_eq_true_eq] at hchk
    obtain ⟨d, h1⟩ := hchk
    cases (Nat.eq_of_beq_eq_true h1)
    exact js_iast (C := C) (J := J) (q := q) (K := K) X d hk
  case bastore =>
    simp only [jx_chk, Bool.and_eq_true, decide_eq_true_eq] at hchk
    obtain ⟨d, h1⟩ := hchk
    cases (Nat.eq_of_beq_eq_true h1)
    exact js_bast (C := C) (J := J) (q := q) (K := K) X d hk
  case aastore =>
    simp only [jx_chk, Bool.and_eq_true, decide_eq_true_eq] at hchk
    obtain ⟨d, h1, h2⟩ := hchk
    cases (Nat.eq_of_beq_eq_true h1)
    obtain ⟨D, T, N, hcl⟩ := jx_clat h2
    exact js_aast (C := C) (J := J) (q := q) (K := K) X hcl (jx_tyat h2) d hk
  case arraylength =>
    simp only [jx_chk, Bool.and_eq_true, decide_eq_true_eq] at hchk
    obtain ⟨d, h1⟩ := hchk
    cases (Nat.eq_of_beq_eq_true h1)
    show jx_KS _ _ _ _ _ _ _ _ _ _ _ _ _ _ _ _ (jx_len x C J q K)
    unfold jx_len
    generalize jx_x x 0 = z
    rcases z with _ | _ | z
    · exact js_ilen (C := C) (J := J) (q := q) (K := K) X d hk
    · exact js_rlen (C := C) (J := J) (q := q) (K := K) X d hk
    · exact js_blen (C := C) (J := J) (q := q) (K := K) X d hk
  case new index =>
    simp only [jx_chk, Bool.and_eq_true, decide_eq_true_eq] at hchk
    obtain ⟨d, h1, h2⟩ := hchk
    cases (Nat.eq_of_beq_eq_true h1)
    split at h2
    · rename_i r hr
      simp only [Bool.and_eq_true] at h2
      obtain ⟨hc1, ty0, hc2, hc3, hc4⟩ := jx_cls hr
      have hnf : jx_nf (jx_x x 0) = r.2.2 := by unfold jx_nf; rw [hr]
      show jx_KS _ _ _ _ _ _ _ _ _ _ _ _ _ _ _ _ (jt_new (jx_x x 0) (jx_nf (jx_x x 0)) (jx_born (jx_x x 0)) C J q K)
      rw [hnf]
      exact js_new (C := C) (J := J) (q := q) (K := K) X hr hc1 ty0 hc2 hc4 (jx_w_in h2.1.1) (jx_w_in h2.1.2) (jx_w_in h2.2) d hk
    · cases h2
  case newarray t =>
    cases t
    case int =>
      simp only [jx_chk, Bool.and_eq_true, decide_eq_true_eq] at hchk
      obtain ⟨d, h1, h2⟩ := hchk
      cases (Nat.eq_of_beq_eq_true h1)
      exact js_newi (C := C) (J := J) (q := q) (K := K) X (jx_w_in h2) d hk
    case byte =>
      simp only [jx_chk, Bool.and_eq_true, decide_eq_true_eq] at hchk
      obtain ⟨d, h1, h2⟩ := hchk
      cases (Nat.eq_of_beq_eq_true h1)
      exact js_newb (C := C) (J := J) (q := q) (K := K) X (jx_w_in h2) d hk
    all_goals (simp [jx_chk] at hchk)
  case anewarray index =>
    simp only [jx_chk, Bool.and_eq_true, decide_eq_true_eq] at hchk
    obtain ⟨d, ⟨h1, h2⟩, h3⟩ := hchk
    cases (Nat.eq_of_beq_eq_true h1)
    exact js_newr (C := C) (J := J) (q := q) (K := K) X (jx_tyat h2) (jx_aoat X.2.2.2.2.2.2.1 h2) (jx_w_in h3) d hk
  case invokevirtual index =>
    simp only [jx_chk, Bool.and_eq_true, decide_eq_true_eq] at hchk
    obtain ⟨d, ⟨⟨⟨⟨⟨h1, h2⟩, h3⟩, h4⟩, h5⟩, h6⟩, h7⟩ := hchk
    cases (Nat.eq_of_beq_eq_true h1)
    obtain ⟨g1, -, g2, -⟩ := jx_mchk_ok h7
    obtain ⟨w2, w3, h0⟩ := g2 (Nat.eq_of_beq_eq_true h2)
    split at h5
    · rename_i r hr
      obtain ⟨D, T, N⟩ := r
      have hD : D = _ := of_decide_eq_true h5
      subst hD
      show jx_KS _ _ _ _ _ _ _ _ _ _ _ _ _ _ _ _ (jt_callV (jx_Tb Mt) (jx_x x 1) (jx_x x 2) (jx_x x 3) (jx_x x 4) C J q K)
      rw [← Nat.eq_of_beq_eq_true h3]
      exact js_callV (C := C) (J := J) (q := q) (K := K) X hC g1 h0 (jx_roomB_ok h4) hr (jx_w_in h6) w2 w3 d hk
    · cases h5
  case invokestatic index =>
    simp only [jx_chk, Bool.and_eq_true, decide_eq_true_eq] at hchk
    obtain ⟨d, h1, h2⟩ := hchk
    cases (Nat.eq_of_beq_eq_true h1)
    show jx_KS _ _ _ _ _ _ _ _ _ _ _ _ _ _ _ _ (jx_ist (jx_Tb Mt) x C J q K)
    unfold jx_ist
    generalize jx_x x 0 = z at h2 ⊢
    rcases z with _ | _ | z
    · simp only [Bool.and_eq_true] at h2
      obtain ⟨⟨⟨⟨h3, h4⟩, h5⟩, h6⟩, h7⟩ := h2
      obtain ⟨g1, g2, -, -⟩ := jx_mchk_ok h7
      obtain ⟨w2, h0⟩ := g2 (Nat.eq_of_beq_eq_true h3)
      rw [← Nat.eq_of_beq_eq_true h4]
      exact js_callS (C := C) (J := J) (q := q) (K := K) X hC g1 h0 (jx_roomB_ok h5) (jx_w_in h6) w2 d hk
    · simp only [Bool.and_eq_true, decide_eq_true_eq] at h2
      obtain ⟨⟨⟨⟨h3, h4⟩, h5⟩, h6⟩, h7⟩ := h2
      obtain ⟨g1, g2, -, -⟩ := jx_mchk_ok h7
      obtain ⟨w2, h0⟩ := g2 (Nat.eq_of_beq_eq_true h3)
      rw [← Nat.eq_of_beq_eq_true h4]
      exact js_callSN (C := C) (J := J) (q := q) (K := K) X hC g1 h0 (jx_roomB_ok h5) (List.mem_of_getElem? h6) w2 d hk
    · simp only [Bool.and_eq_true] at h2
      obtain ⟨⟨⟨⟨⟨h3, h4⟩, h5⟩, h6⟩, h7⟩, h8⟩ := h2
      rcases z with _ | z
      · exact js_cpy (C := C) (J := J) (q := q) (K := K) X (t0 := 0) (by decide) rfl rfl (jx_w_in h3) (jx_w_in h4) (jx_w_in h5) (jx_w_in h6) (Nat.le_of_ble_eq_true h7) (Nat.le_of_ble_eq_true h8) d hk
      · exact js_cpy (C := C) (J := J) (q := q) (K := K) X (t0 := 1) (by decide) rfl rfl (jx_w_in h3) (jx_w_in h4) (jx_w_in h5) (jx_w_in h6) (Nat.le_of_ble_eq_true h7) (Nat.le_of_ble_eq_true h8) d hk
  case invokespecial index =>
    simp only [jx_chk, Bool.and_eq_true, decide_eq_true_eq] at hchk
    obtain ⟨d, h1, h2⟩ := hchk
    cases (Nat.eq_of_beq_eq_true h1)
    show jx_KS _ _ _ _ _ _ _ _ _ _ _ _ _ _ _ _ (jx_isp (jx_Tb Mt) x C J q K)
    unfold jx_isp
    generalize jx_x x 0 = z at h2 ⊢
    rcases z with _ | _ | z
    · simp only [Bool.and_eq_true] at h2
      obtain ⟨⟨⟨⟨h3, h4⟩, h5⟩, h6⟩, h7⟩ := h2
      obtain ⟨g1, -, -, g2⟩ := jx_mchk_ok h7
      obtain ⟨w2, hn, hr⟩ := g2 (Nat.eq_of_beq_eq_true h3)
      rw [← Nat.eq_of_beq_eq_true h4]
      exact js_callI (C := C) (J := J) (q := q) (K := K) X hC g1 hr (jx_roomB_ok h5) hn (jx_w_in h6) w2 d hk
    · simp only [Bool.and_eq_true, decide_eq_true_eq] at h2
      obtain ⟨⟨⟨⟨h3, h4⟩, h5⟩, h6⟩, h7⟩ := h2
      obtain ⟨g1, -, -, g2⟩ := jx_mchk_ok h7
      obtain ⟨w2, hn, hr⟩ := g2 (Nat.eq_of_beq_eq_true h3)
      rw [← Nat.eq_of_beq_eq_true h4]
      exact js_callIN (C := C) (J := J) (q := q) (K := K) X hC g1 hr (jx_roomB_ok h5) hn (List.mem_of_getElem? h6) w2 d hk
    · simp only [Bool.and_eq_true] at h2
      obtain ⟨⟨⟨⟨h3, h4⟩, h5⟩, h7⟩, h8⟩ := h2
      exact js_oi (C := C) (J := J) (q := q) (K := K) X (jx_w_in h3) (jx_w_in h4) (jx_w_in h5) (Nat.le_of_ble_eq_true h7) (Nat.le_of_ble_eq_true h8) d hk
  case ireturn =>
    simp only [jx_chk, Bool.and_eq_true, decide_eq_true_eq] at hchk
    obtain ⟨d, h1, h2⟩ := hchk
    cases (Nat.eq_of_beq_eq_true h1)
    show jx_KS _ _ _ _ _ _ _ _ _ _ _ _ _ _ _ _ (jx_ire x C J q K)
    unfold jx_ire
    generalize jx_x x 0 = z at h2 ⊢
    rcases z with _ | z
    · exact js_ri (C := C) (J := J) (q := q) (K := K) hq (of_decide_eq_true h2) d
    · exact js_rz (C := C) (J := J) (q := q) (K := K) hq (of_decide_eq_true h2) d
  case lreturn =>
    simp only [jx_chk, Bool.and_eq_true, decide_eq_true_eq] at hchk
    obtain ⟨d, h1, h2⟩ := hchk
    cases (Nat.eq_of_beq_eq_true h1)
    exact js_rl (C := C) (J := J) (q := q) (K := K) hq h2 d
  case areturn =>
    simp only [jx_chk, Bool.and_eq_true, decide_eq_true_eq] at hchk
    obtain ⟨d, h1, h2⟩ := hchk
    cases (Nat.eq_of_beq_eq_true h1)
    split at h2
    · exact js_rr (C := C) (J := J) (q := q) (K := K) hq (by assumption) d
    · cases h2
  case return_ =>
    simp only [jx_chk, Bool.and_eq_true, decide_eq_true_eq] at hchk
    obtain ⟨d, h1, h2⟩ := hchk
    cases (Nat.eq_of_beq_eq_true h1)
    exact js_rv (C := C) (J := J) (q := q) (K := K) hq h2 d
  all_goals (simp [jx_chk] at hchk)
end JXM
end
section
/-! WHAT A RUN OF THE PLAIN MACHINE COMES TO: the least predicate that is closed under its steps; and that it is sound -/
def jx_le (C C' : jx_C) : Prop := ∀ (y : Nat) (As : List Value) (w : jx_W) (K K' : jx_Q), (∀ w r, K w r → K' w r) → C y As w K → C' y As w K'
def jx_Mo (τ : jx_T) : Prop := ∀ (C C' : jx_C) (J J' : jx_J) (q q' : jx_Q) (k k' : jx_K), jx_le C C' → (∀ b lv st bc bs w, J b lv st bc bs w → J' b lv st bc bs w) → (∀ w r, q w r → q' w r) → (∀ lv st bc bs w, k lv st bc bs w → k' lv st bc bs w) → ∀ lv st bc bs w, τ C J q k lv st bc bs w → τ C' J' q' k' lv st bc bs w
theorem jm_bad : jx_Mo jt_bad := fun _ _ _ _ _ _ _ _ _ _ _ _ _ _ _ _ _ h => h.elim
theorem jm_c (v : Value) : jx_Mo (jt_c v) := by
  intro C C' J J' q q' k k' hC hJ hq hk lv st bc bs w h
  exact hk _ _ _ _ _ h
theorem jm_ldi (i : Nat) : jx_Mo (jt_ldi i) := by
  intro C C' J J' q q' k k' hC hJ hq hk lv st bc bs w h
  unfold jt_ldi at h ⊢
  split at h
  · exact hk _ _ _ _ _ h
  · exact h.elim
theorem jm_ldl (i : Nat) : jx_Mo (jt_ldl i) := by
  intro C C' J J' q q' k k' hC hJ hq hk lv st bc bs w h
  unfold jt_ldl at h ⊢
  split at h
  · exact hk _ _ _ _ _ h
  · exact h.elim
theorem jm_lda (i : Nat) : jx_Mo (jt_lda i) := by
  intro C C' J J' q q' k k' hC hJ hq hk lv st bc bs w h
  unfold jt_lda at h ⊢
  split at h
  · exact hk _ _ _ _ _ h
  · exact h.elim
theorem jm_inc (i : Nat) (v : Int32) : jx_Mo (jt_inc i v) := by
  intro C C' J J' q q' k k' hC hJ hq hk lv st bc bs w h
  unfold jt_inc at h ⊢
  split at h
  · exact hk _ _ _ _ _ h
  · exact h.elim
theorem jm_sti (i : Nat) : jx_Mo (jt_sti i) := by
  intro C C' J J' q q' k k' hC hJ hq hk lv st bc bs w h
  unfold jt_sti at h ⊢
  split at h
  · exact hk _ _ _ _ _ h
  · exact h.elim
theorem jm_stl (i : Nat) : jx_Mo (jt_stl i) := by
  intro C C' J J' q q' k k' hC hJ hq hk lv st bc bs w h
  unfold jt_stl at h ⊢
  split at h
  · exact hk _ _ _ _ _ h
  · exact h.elim
theorem jm_sta (i : Nat) : jx_Mo (jt_sta i) := by
  intro C C' J J' q q' k k' hC hJ hq hk lv st bc bs w h
  unfold jt_sta at h ⊢
  split at h
  · exact hk _ _ _ _ _ h
  · exact h.elim
theorem jm_ii (f : Int32 → Int32 → Int32) : jx_Mo (jt_ii f) := by
  intro C C' J J' q q' k k' hC hJ hq hk lv st bc bs w h
  unfold jt_ii at h ⊢
  split at h
  · exact hk _ _ _ _ _ h
  · exact h.elim
theorem jm_ll (f : Int64 → Int64 → Int64) : jx_Mo (jt_ll f) := by
  intro C C' J J' q q' k k' hC hJ hq hk lv st bc bs w h
  unfold jt_ll at h ⊢
  split at h
  · exact hk _ _ _ _ _ h
  · exact h.elim
theorem jm_li (f : Int64 → Int32 → Int64) : jx_Mo (jt_li f) := by
  intro C C' J J' q q' k k' hC hJ hq hk lv st bc bs w h
  unfold jt_li at h ⊢
  split at h
  · exact hk _ _ _ _ _ h
  · exact h.elim
theorem jm_lcmp : jx_Mo (jt_lcmp) := by
  intro C C' J J' q q' k k' hC hJ hq hk lv st bc bs w h
  unfold jt_lcmp at h ⊢
  split at h
  · exact hk _ _ _ _ _ h
  · exact h.elim
theorem jm_i2l : jx_Mo (jt_i2l) := by
  intro C C' J J' q q' k k' hC hJ hq hk lv st bc bs w h
  unfold jt_i2l at h ⊢
  split at h
  · exact hk _ _ _ _ _ h
  · exact h.elim
theorem jm_l2i : jx_Mo (jt_l2i) := by
  intro C C' J J' q q' k k' hC hJ hq hk lv st bc bs w h
  unfold jt_l2i at h ⊢
  split at h
  · exact hk _ _ _ _ _ h
  · exact h.elim
theorem jm_i2b : jx_Mo (jt_i2b) := by
  intro C C' J J' q q' k k' hC hJ hq hk lv st bc bs w h
  unfold jt_i2b at h ⊢
  split at h
  · exact hk _ _ _ _ _ h
  · exact h.elim
theorem jm_dup2 : jx_Mo (jt_dup2) := by
  intro C C' J J' q q' k k' hC hJ hq hk lv st bc bs w h
  unfold jt_dup2 at h ⊢
  split at h
  · exact hk _ _ _ _ _ h
  · exact h.elim
theorem jm_oi : jx_Mo (jt_oi) := by
  intro C C' J J' q q' k k' hC hJ hq hk lv st bc bs w h
  unfold jt_oi at h ⊢
  split at h
  · exact hk _ _ _ _ _ h
  · exact h.elim
theorem jm_irem : jx_Mo (jt_irem) := by
  intro C C' J J' q q' k k' hC hJ hq hk lv st bc bs w h
  unfold jt_irem at h ⊢
  split at h
  · exact ⟨h.1, hk _ _ _ _ _ h.2⟩
  · exact h.elim
theorem jm_dup : jx_Mo (jt_dup) := by
  intro C C' J J' q q' k k' hC hJ hq hk lv st bc bs w h
  unfold jt_dup at h ⊢
  split at h
  · exact hk _ _ _ _ _ h
  · exact hk _ _ _ _ _ h
  · exact h.elim
theorem jm_pop : jx_Mo (jt_pop) := by
  intro C C' J J' q q' k k' hC hJ hq hk lv st bc bs w h
  unfold jt_pop at h ⊢
  split at h
  · exact hk _ _ _ _ _ h
  · exact hk _ _ _ _ _ h
  · exact h.elim
theorem jm_if (f : Int32 → Prop) (g : Int32 → Prop) (b : Nat) : jx_Mo (jt_if f g b) := by
  intro C C' J J' q q' k k' hC hJ hq hk lv st bc bs w h
  unfold jt_if at h ⊢
  split at h
  · exact ⟨fun z => hJ _ _ _ _ _ _ (h.1 z), fun z => hk _ _ _ _ _ (h.2 z)⟩
  · exact h.elim
theorem jm_cmp (f : Int32 → Int32 → Prop) (g : Int32 → Int32 → Prop) (b : Nat) : jx_Mo (jt_cmp f g b) := by
  intro C C' J J' q q' k k' hC hJ hq hk lv st bc bs w h
  unfold jt_cmp at h ⊢
  split at h
  · exact ⟨fun z => hJ _ _ _ _ _ _ (h.1 z), fun z => hk _ _ _ _ _ (h.2 z)⟩
  · exact h.elim
theorem jm_go (b : Nat) : jx_Mo (jt_go b) := by
  intro C C' J J' q q' k k' hC hJ hq hk lv st bc bs w h
  exact hJ _ _ _ _ _ _ h
theorem jx_sw_mono {x : Int32} {lo : Int} {d : Nat} {jj jj' : Nat → Prop} (hj : ∀ b, jj b → jj' b) : ∀ (l : List Nat) (n : Int), jx_sw x lo d jj l n → jx_sw x lo d jj' l n
  | [], n, h => fun z => hj _ (h z)
  | b :: t, n, h => ⟨fun z => hj _ (h.1 z), jx_sw_mono hj t (n + 1) h.2⟩
theorem jm_sw (lo : Int) (d : Nat) (bs0 : List Nat) : jx_Mo (jt_sw lo d bs0) := by
  intro C C' J J' q q' k k' hC hJ hq hk lv st bc bs w h
  unfold jt_sw at h ⊢
  split at h
  · exact jx_sw_mono (fun b hb => hJ _ _ _ _ _ _ hb) _ _ h
  · exact h.elim
theorem jm_gfi (ci : Nat) (i : Nat) : jx_Mo (jt_gfi ci i) := by
  intro C C' J J' q q' k k' hC hJ hq hk lv st bc bs w h
  unfold jt_gfi at h ⊢
  split at h
  · obtain ⟨fs, x, h1, h2, h⟩ := h; exact ⟨fs, x, h1, h2, hk _ _ _ _ _ h⟩
  · exact h.elim
theorem jm_gfl (ci : Nat) (i : Nat) : jx_Mo (jt_gfl ci i) := by
  intro C C' J J' q q' k k' hC hJ hq hk lv st bc bs w h
  unfold jt_gfl at h ⊢
  split at h
  · obtain ⟨fs, x, h1, h2, h⟩ := h; exact ⟨fs, x, h1, h2, hk _ _ _ _ _ h⟩
  · exact h.elim
theorem jm_gfr (ci : Nat) (i : Nat) : jx_Mo (jt_gfr ci i) := by
  intro C C' J J' q q' k k' hC hJ hq hk lv st bc bs w h
  unfold jt_gfr at h ⊢
  split at h
  · obtain ⟨fs, x, h1, h2, h⟩ := h; exact ⟨fs, x, h1, h2, hk _ _ _ _ _ h⟩
  · exact h.elim
theorem jm_pfi (ci : Nat) (i : Nat) : jx_Mo (jt_pfi ci i) := by
  intro C C' J J' q q' k k' hC hJ hq hk lv st bc bs w h
  unfold jt_pfi at h ⊢
  split at h
  · obtain ⟨fs, h1, h2, h⟩ := h; exact ⟨fs, h1, h2, hk _ _ _ _ _ h⟩
  · exact h.elim
theorem jm_pfl (ci : Nat) (i : Nat) : jx_Mo (jt_pfl ci i) := by
  intro C C' J J' q q' k k' hC hJ hq hk lv st bc bs w h
  unfold jt_pfl at h ⊢
  split at h
  · obtain ⟨fs, h1, h2, h⟩ := h; exact ⟨fs, h1, h2, hk _ _ _ _ _ h⟩
  · exact h.elim
theorem jm_pfr (ci : Nat) (i : Nat) : jx_Mo (jt_pfr ci i) := by
  intro C C' J J' q q' k k' hC hJ hq hk lv st bc bs w h
  unfold jt_pfr at h ⊢
  split at h
  · obtain ⟨fs, h1, h2, h⟩ := h; exact ⟨fs, h1, h2, hk _ _ _ _ _ h⟩
  · exact h.elim
theorem jm_pfz (ci : Nat) (i : Nat) : jx_Mo (jt_pfz ci i) := by
  intro C C' J J' q q' k k' hC hJ hq hk lv st bc bs w h
  unfold jt_pfz at h ⊢
  split at h
  · obtain ⟨fs, h1, h2, h3, h⟩ := h; exact ⟨fs, h1, h2, h3, hk _ _ _ _ _ h⟩
  · exact h.elim
theorem jm_gs (i : Nat) : jx_Mo (jt_gs i) := by
  intro C C' J J' q q' k k' hC hJ hq hk lv st bc bs w h
  exact hk _ _ _ _ _ h
theorem jm_iald : jx_Mo (jt_iald) := by
  intro C C' J J' q q' k k' hC hJ hq hk lv st bc bs w h
  unfold jt_iald at h ⊢
  split at h
  · obtain ⟨n, f, h1, h2, h⟩ := h; exact ⟨n, f, h1, h2, hk _ _ _ _ _ h⟩
  · exact h.elim
theorem jm_rald : jx_Mo (jt_rald) := by
  intro C C' J J' q q' k k' hC hJ hq hk lv st bc bs w h
  unfold jt_rald at h ⊢
  split at h
  · obtain ⟨n, f, h1, h2, h⟩ := h; exact ⟨n, f, h1, h2, hk _ _ _ _ _ h⟩
  · exact h.elim
theorem jm_bald : jx_Mo (jt_bald) := by
  intro C C' J J' q q' k k' hC hJ hq hk lv st bc bs w h
  unfold jt_bald at h ⊢
  split at h
  · obtain ⟨n, f, h1, h2, h⟩ := h; exact ⟨n, f, h1, h2, hk _ _ _ _ _ h⟩
  · exact h.elim
theorem jm_iast : jx_Mo (jt_iast) := by
  intro C C' J J' q q' k k' hC hJ hq hk lv st bc bs w h
  unfold jt_iast at h ⊢
  split at h
  · obtain ⟨n, f, h1, h2, h⟩ := h; exact ⟨n, f, h1, h2, hk _ _ _ _ _ h⟩
  · exact h.elim
theorem jm_bast : jx_Mo (jt_bast) := by
  intro C C' J J' q q' k k' hC hJ hq hk lv st bc bs w h
  unfold jt_bast at h ⊢
  split at h
  · obtain ⟨n, f, h1, h2, h⟩ := h; exact ⟨n, f, h1, h2, hk _ _ _ _ _ h⟩
  · exact h.elim
theorem jm_aald (ci : Nat) : jx_Mo (jt_aald ci) := by
  intro C C' J J' q q' k k' hC hJ hq hk lv st bc bs w h
  unfold jt_aald at h ⊢
  split at h
  · obtain ⟨n, f, b, h1, h2, h3, h⟩ := h; exact ⟨n, f, b, h1, h2, h3, hk _ _ _ _ _ h⟩
  · exact h.elim
theorem jm_aast (ci : Nat) : jx_Mo (jt_aast ci) := by
  intro C C' J J' q q' k k' hC hJ hq hk lv st bc bs w h
  unfold jt_aast at h ⊢
  split at h
  · obtain ⟨n, f, b, h1, h2, h3, h⟩ := h; exact ⟨n, f, b, h1, h2, h3, hk _ _ _ _ _ h⟩
  · exact h.elim
theorem jm_ilen : jx_Mo (jt_ilen) := by
  intro C C' J J' q q' k k' hC hJ hq hk lv st bc bs w h
  unfold jt_ilen at h ⊢
  split at h
  · obtain ⟨n, f, h1, h⟩ := h; exact ⟨n, f, h1, hk _ _ _ _ _ h⟩
  · exact h.elim
theorem jm_rlen : jx_Mo (jt_rlen) := by
  intro C C' J J' q q' k k' hC hJ hq hk lv st bc bs w h
  unfold jt_rlen at h ⊢
  split at h
  · obtain ⟨n, f, h1, h⟩ := h; exact ⟨n, f, h1, hk _ _ _ _ _ h⟩
  · exact h.elim
theorem jm_blen : jx_Mo (jt_blen) := by
  intro C C' J J' q q' k k' hC hJ hq hk lv st bc bs w h
  unfold jt_blen at h ⊢
  split at h
  · obtain ⟨n, f, h1, h⟩ := h; exact ⟨n, f, h1, hk _ _ _ _ _ h⟩
  · exact h.elim
theorem jm_new (ci : Nat) (N : Nat) (fs : List Value) : jx_Mo (jt_new ci N fs) := by
  intro C C' J J' q q' k k' hC hJ hq hk lv st bc bs w h
  exact ⟨h.1, h.2.1, hk _ _ _ _ _ h.2.2⟩
theorem jm_newi : jx_Mo (jt_newi) := by
  intro C C' J J' q q' k k' hC hJ hq hk lv st bc bs w h
  unfold jt_newi at h ⊢
  split at h
  · obtain ⟨N, h1, h2, h3, h4, h⟩ := h; exact ⟨N, h1, h2, h3, h4, hk _ _ _ _ _ h⟩
  · exact h.elim
theorem jm_newb : jx_Mo (jt_newb) := by
  intro C C' J J' q q' k k' hC hJ hq hk lv st bc bs w h
  unfold jt_newb at h ⊢
  split at h
  · obtain ⟨N, h1, h2, h3, h4, h⟩ := h; exact ⟨N, h1, h2, h3, h4, hk _ _ _ _ _ h⟩
  · exact h.elim
theorem jm_newr (ci : Nat) : jx_Mo (jt_newr ci) := by
  intro C C' J J' q q' k k' hC hJ hq hk lv st bc bs w h
  unfold jt_newr at h ⊢
  split at h
  · obtain ⟨N, h1, h2, h3, h4, h⟩ := h; exact ⟨N, h1, h2, h3, h4, hk _ _ _ _ _ h⟩
  · exact h.elim
theorem jm_cpy (ty : FieldType) : jx_Mo (jt_cpy ty) := by
  intro C C' J J' q q' k k' hC hJ hq hk lv st bc bs w h
  unfold jt_cpy at h ⊢
  split at h
  · obtain ⟨n0, n1, f, g, h1, h2, h3, h4, h5, h6, h7, h8, h⟩ := h; exact ⟨n0, n1, f, g, h1, h2, h3, h4, h5, h6, h7, h8, hk _ _ _ _ _ h⟩
  · exact h.elim
theorem jm_ri : jx_Mo (jt_ri) := by
  intro C C' J J' q q' k k' hC hJ hq hk lv st bc bs w h
  unfold jt_ri at h ⊢
  split at h
  · exact hq _ _ h
  · exact h.elim
theorem jm_rl : jx_Mo (jt_rl) := by
  intro C C' J J' q q' k k' hC hJ hq hk lv st bc bs w h
  unfold jt_rl at h ⊢
  split at h
  · exact hq _ _ h
  · exact h.elim
theorem jm_rr : jx_Mo (jt_rr) := by
  intro C C' J J' q q' k k' hC hJ hq hk lv st bc bs w h
  unfold jt_rr at h ⊢
  split at h
  · exact hq _ _ h
  · exact h.elim
theorem jm_rv : jx_Mo (jt_rv) := by
  intro C C' J J' q q' k k' hC hJ hq hk lv st bc bs w h
  unfold jt_rv at h ⊢
  split at h
  · exact hq _ _ h
  · exact h.elim
theorem jm_rz : jx_Mo (jt_rz) := by
  intro C C' J J' q q' k k' hC hJ hq hk lv st bc bs w h
  unfold jt_rz at h ⊢
  split at h
  · exact ⟨h.1, hq _ _ h.2⟩
  · exact h.elim
theorem jx_ret_mono {k k' : List Value → jx_W → Prop} (hk : ∀ st w, k st w → k' st w) {rest : List Value} : ∀ (rk : Nat) (w : jx_W) (r : Option Value), jx_ret rk k rest w r → jx_ret rk k' rest w r
  | 0, _, _, h => ⟨h.1, hk _ _ h.2⟩
  | 1, _, _, ⟨x, h1, h⟩ => ⟨x, h1, hk _ _ h⟩
  | 2, _, _, ⟨x, h1, h⟩ => ⟨x, h1, hk _ _ h⟩
  | n + 3, _, _, ⟨x, h1, h⟩ => ⟨x, h1, hk _ _ h⟩
theorem jm_call (Tb : Nat → jx_Me) (y na rk : Nat) : jx_Mo (jt_call Tb y na rk) := by
  intro C C' J J' q q' k k' hC hJ hq hk lv st bc bs w h
  unfold jt_call at h ⊢
  split at h
  · skip

    exact hC _ _ _ _ _ (jx_ret_mono (fun _ _ hh => hk _ _ _ _ _ hh) rk) h
  · exact h.elim
theorem jm_callV (Tb : Nat → jx_Me) (ci y na rk : Nat) : jx_Mo (jt_callV Tb ci y na rk) := by
  intro C C' J J' q q' k k' hC hJ hq hk lv st bc bs w h
  unfold jt_callV at h ⊢
  split at h
  · skip

    exact ⟨h.1, hC _ _ _ _ _ (jx_ret_mono (fun _ _ hh => hk _ _ _ _ _ hh) rk) h.2⟩
  · exact h.elim
theorem jm_callA (Tb : Nat → jx_Me) (y na : Nat) : jx_Mo (jt_callA Tb y na) := by
  intro C C' J J' q q' k k' hC hJ hq hk lv st bc bs w h
  unfold jt_callA at h ⊢
  split at h
  · skip

    exact ⟨h.1, h.2.1, hC _ _ _ _ _ (fun _ _ hh => ⟨hh.1, hk _ _ _ _ _ hh.2⟩) h.2.2⟩
  · exact h.elim
set_option maxHeartbeats 4000000 in
theorem jm_tr (Tb : Nat → jx_Me) (i : jx_I) : jx_Mo (jx_tr Tb i) := by
  obtain ⟨len, ins, x⟩ := i
  cases ins
  case nop => exact jm_go _
  case iconst => exact jm_c _
  case bipush => exact jm_c _
  case sipush => exact jm_c _
  case ldc => exact jm_c _
  case ldc_w => exact jm_c _
  case ldc2_w => exact jm_c _
  case lconst => exact jm_c _
  case iload => exact jm_ldi _
  case iload_n => exact jm_ldi _
  case lload => exact jm_ldl _
  case lload_n => exact jm_ldl _
  case aload => exact jm_lda _
  case aload_n => exact jm_lda _
  case istore => exact jm_sti _
  case istore_n => exact jm_sti _
  case lstore => exact jm_stl _
  case lstore_n => exact jm_stl _
  case astore => exact jm_sta _
  case astore_n => exact jm_sta _
  case iinc => exact jm_inc _ _
  case iadd => exact jm_ii _
  case isub => exact jm_ii _
  case imul => exact jm_ii _
  case iand => exact jm_ii _
  case ior => exact jm_ii _
  case ixor => exact jm_ii _
  case ishl => exact jm_ii _
  case ishr => exact jm_ii _
  case iushr => exact jm_ii _
  case irem => exact jm_irem
  case ladd => exact jm_ll _
  case lsub => exact jm_ll _
  case lmul => exact jm_ll _
  case land => exact jm_ll _
  case lor => exact jm_ll _
  case lshl => exact jm_li _
  case lushr => exact jm_li _
  case lcmp => exact jm_lcmp
  case i2l => exact jm_i2l
  case l2i => exact jm_l2i
  case i2b => exact jm_i2b
  case dup => exact jm_dup
  case dup2 => exact jm_dup2
  case pop => exact jm_pop
  case ifCond cd off => cases cd <;> exact jm_if _ _ _
  case if_icmp cd off => cases cd <;> exact jm_cmp _ _ _
  case goto => exact jm_go _
  case tableswitch => exact jm_sw _ _ _
  case getfield =>
    show jx_Mo (jx_gf x)
    unfold jx_gf
    generalize jx_x x 0 = z
    rcases z with _ | _ | z
    · exact jm_gfi _ _
    · exact jm_gfl _ _
    · exact jm_gfr _ _
  case putfield =>
    show jx_Mo (jx_pf x)
    unfold jx_pf
    generalize jx_x x 0 = z
    rcases z with _ | _ | _ | z
    · exact jm_pfi _ _
    · exact jm_pfl _ _
    · exact jm_pfr _ _
    · exact jm_pfz _ _
  case getstatic => exact jm_gs _
  case iaload =>
    show jx_Mo (jx_al0 x)
    unfold jx_al0
    generalize jx_x x 0 = z
    rcases z with _ | z
    · exact jm_iald
    · exact jm_rald
  case baload => exact jm_bald
  case aaload => exact jm_aald _
  case iastore => exact jm_iast
  case bastore => exact jm_bast
  case aastore => exact jm_aast _
  case arraylength =>
    show jx_Mo (jx_len x)
    unfold jx_len
    generalize jx_x x 0 = z
    rcases z with _ | _ | z
    · exact jm_ilen
    · exact jm_rlen
    · exact jm_blen
  case new => exact jm_new _ _ _
  case newarray t =>
    cases t
    case int => exact jm_newi
    case byte => exact jm_newb
    all_goals exact jm_bad
  case anewarray => exact jm_newr _
  case invokevirtual => exact jm_callV _ _ _ _ _
  case invokestatic =>
    show jx_Mo (jx_ist Tb x)
    unfold jx_ist
    generalize jx_x x 0 = z
    rcases z with _ | _ | _ | z
    · exact jm_call _ _ _ _
    · exact jm_call _ _ _ _
    · exact jm_cpy _
    · exact jm_cpy _
  case invokespecial =>
    show jx_Mo (jx_isp Tb x)
    unfold jx_isp
    generalize jx_x x 0 = z
    rcases z with _ | _ | z
    · exact jm_callA _ _ _
    · exact jm_callA _ _ _
    · exact jm_oi
  case ireturn =>
    show jx_Mo (jx_ire x)
    unfold jx_ire
    generalize jx_x x 0 = z
    rcases z with _ | z
    · exact jm_ri
    · exact jm_rz
  case lreturn => exact jm_rl
  case areturn => exact jm_rr
  case return_ => exact jm_rv
  all_goals exact jm_bad
/-- a block: where it begins, the locals that it wants, its instructions -/
abbrev jx_B : Type := Nat × List Nat × List jx_I
abbrev jx_Z : Type := (Nat → jx_Mt) × (Nat → Nat → jx_B)
abbrev jx_XX : Type := Nat → Nat → jx_L → List Value → Nat → Nat → jx_W → jx_Q → Prop
def jx_cl (Z : jx_Z) (X : jx_XX) : jx_C := fun y As w K => X y 0 (jx_pick (Z.2 y 0).2.1 (lv_args 0 As)) [] (Z.1 y).1.2.2.2.2.1.1 (Z.1 y).1.2.2.2.2.1.2 w K
def jx_jp (Z : jx_Z) (X : jx_XX) (μ : Nat) (Q : jx_Q) : jx_J := fun b lv st bc bs w => X μ b (jx_pick (Z.2 μ b).2.1 lv) st bc bs w Q
def jx_blk (Tb : Nat → jx_Me) (C : jx_C) (J : jx_J) (q : jx_Q) (is : List jx_I) : jx_K := is.foldr (fun i k => jx_tr Tb i C J q k) (fun _ _ _ _ _ => False)
def jx_step (Z : jx_Z) (X : jx_XX) : jx_XX := fun μ b lv st bc bs w Q => jx_blk (jx_Tb Z.1) (jx_cl Z X) (jx_jp Z X μ Q) Q (Z.2 μ b).2.2 lv st bc bs w
def jx_mono (X : jx_XX) : Prop := ∀ (μ b : Nat) (lv : jx_L) (st : List Value) (bc bs : Nat) (w : jx_W) (Q Q' : jx_Q), (∀ w r, Q w r → Q' w r) → X μ b lv st bc bs w Q → X μ b lv st bc bs w Q'
def jx_wp (Z : jx_Z) : jx_XX := fun μ b lv st bc bs w Q => ∀ X : jx_XX, jx_mono X → (∀ (μ b : Nat) (lv : jx_L) (st : List Value) (bc bs : Nat) (w : jx_W) (Q : jx_Q), jx_step Z X μ b lv st bc bs w Q → X μ b lv st bc bs w Q) → X μ b lv st bc bs w Q
theorem jx_wp_mono (Z : jx_Z) : jx_mono (jx_wp Z) := fun μ b lv st bc bs w Q Q' hQ h X hm hc => hm μ b lv st bc bs w Q Q' hQ (h X hm hc)
theorem jx_blk_mono {Tb : Nat → jx_Me} {C C' : jx_C} {J J' : jx_J} {q : jx_Q} (hC : jx_le C C') (hJ : ∀ b lv st bc bs w, J b lv st bc bs w → J' b lv st bc bs w) : ∀ (is : List jx_I) (lv : jx_L) (st : List Value) (bc bs : Nat) (w : jx_W), jx_blk Tb C J q is lv st bc bs w → jx_blk Tb C' J' q is lv st bc bs w
  | [], _, _, _, _, _, h => h
  | i :: t, lv, st, bc, bs, w, h => jm_tr Tb i C C' J J' q q _ _ hC hJ (fun _ _ z => z) (jx_blk_mono hC hJ t) lv st bc bs w h
/-- ONE STEP: a block's condition, over what runs come to, is what a run from it comes to -/
theorem jx_unfold {Z : jx_Z} {μ b : Nat} {lv : jx_L} {st : List Value} {bc bs : Nat} {w : jx_W} {Q : jx_Q} (h : jx_step Z (jx_wp Z) μ b lv st bc bs w Q) : jx_wp Z μ b lv st bc bs w Q := by
  intro X hm hc
  refine hc μ b lv st bc bs w Q (jx_blk_mono ?_ ?_ _ lv st bc bs w h)
  · intro y As w K K' hK h1
    exact hm _ _ _ _ _ _ _ K K' hK (h1 X hm hc)
  · intro b lv st bc bs w h1
    exact h1 X hm hc
def jx_sim (l : Launch) (Z : jx_Z) : jx_XX := fun μ b lv st bc bs w Q => ∀ (G : jx_G) (p : Program) (e : Env) (s : State) (m : MethodId) (args : Array Value) (below : List Frame) (meth : Method) (c : Code) (Φ : State → Prop),
  jx_X p s m args meth c (jx_rm (Z.1 μ).1) G (Z.1 μ).1.1.cls (Z.1 μ).1.1.name (Z.1 μ).1.2.1 (Z.1 μ).1.2.2.1 (Z.1 μ).1.2.2.2.2.1.1 (Z.1 μ).1.2.2.2.2.1.2 →
  jx_RS p l e (jx_rm (Z.1 μ).1) s m args below meth c Φ G (Z.1 μ).1.2.2.2.2.1.1 (Z.1 μ).1.2.2.2.2.1.2 (Z.1 μ).1.2.1 (Z.1 μ).1.2.2.2.1 Q →
  ∀ (H : Heap) (locs : List Loc) (cells slots : Nat) (ls : Array Slot), va_S (jx_A G) s.heap H locs → jx_H G s w H → lv_has ls (Z.1 μ).1.2.2.1 lv → cells + bc = (Z.1 μ).1.2.2.2.2.1.1 → slots + bs = (Z.1 μ).1.2.2.2.2.1.2 → W p l e (jx_rm (Z.1 μ).1) s m args below meth c H locs cells slots Φ (F0 m (Z.2 μ b).1 ls st)
theorem jx_sim_mono (l : Launch) (Z : jx_Z) : jx_mono (jx_sim l Z) := fun μ b lv st bc bs w Q Q' hQ h G p e s m args below meth c Φ X hR H locs cells slots ls hS hH hl hc hs => h G p e s m args below meth c Φ X (fun H locs ls pc w r hS hH hq hd => hR H locs ls pc w r hS hH (hQ w r hq) hd) H locs cells slots ls hS hH hl hc hs
def jx_bchk (Mt : Nat → jx_Mt) (tg : Nat → Nat) (M : jx_Me) : Nat → List jx_I → Bool
  | _, [] => true
  | pc, i :: t => jx_chk Mt tg M pc i && jx_bchk Mt tg M (pc + i.1) t
def jx_valid (Z : jx_Z) : Prop := ∀ μ : Nat, plainName (Z.1 μ).1.1.cls = true ∧ (Z.2 μ 0).1 = 0 ∧ ∀ b : Nat, jx_bchk Z.1 (fun b => (Z.2 μ b).1) (Z.1 μ).1 (Z.2 μ b).1 (Z.2 μ b).2.2 = true
theorem jx_met {l : Launch} {Z : jx_Z} (hv : jx_valid Z) (G : jx_G) : jx_CS l G (jx_Tb Z.1) (jx_cl Z (jx_sim l Z)) := by
  intro y As w K hlen h
  unfold jx_Met
  refine Met.ofW (cc := (Z.1 y).1.2.1) (maxL := (Z.1 y).1.2.2.1) (ret := (Z.1 y).1.2.2.2.1) (hv y).1 rfl ?_
  intro p e s m args below meth c s₁ B hml hpc
  obtain ⟨rfl, hF, hH⟩ := hpc
  have hts := atoms_spec (ws := jx_ws (Z.1 y).1) B.pre
  have X : jx_X p s m As.toArray meth c (jx_rm (Z.1 y).1) G (Z.1 y).1.1.cls (Z.1 y).1.1.name (Z.1 y).1.2.1 (Z.1 y).1.2.2.1 (Z.1 y).1.2.2.2.2.1.1 (Z.1 y).1.2.2.2.2.1.2 := ⟨B.exec, B.bytes, hml, findClass_of_methodNamed B.named, fun w hw => hts w (List.mem_cons_of_mem _ hw), (name_of_methodNamed B.named B.method).1, hF, rfl, rfl⟩
  have hl := lv_entry As (n := (Z.1 y).1.2.2.1) hlen
  show W p l e _ s m As.toArray below meth c s.heap [] 0 0 _ (entryFrame m As.toArray (Z.1 y).1.2.2.1)
  rw [lg_entry_eq]
  have h1 := h G p e s m As.toArray below meth c _ X (jx_RS_of X B.returns B.notSynchronized) s.heap [] 0 0 _ va_S.rf hH (jx_pick_has hl _) (Nat.zero_add _) (Nat.zero_add _)
  rw [(hv y).2.1] at h1
  exact h1
theorem jx_sim_step {l : Launch} {Z : jx_Z} (hv : jx_valid Z) (μ b : Nat) (lv : jx_L) (st : List Value) (bc bs : Nat) (w : jx_W) (Q : jx_Q) (h : jx_step Z (jx_sim l Z) μ b lv st bc bs w Q) : jx_sim l Z μ b lv st bc bs w Q := by
  intro G p e s m args below meth c Φ X hR H locs cells slots ls hS hH hl hc hs
  have hj : ∀ b, jx_KS p l e (jx_rm (Z.1 μ).1) s m args below meth c Φ G (Z.1 μ).1.2.2.1 (Z.1 μ).1.2.2.2.2.1.1 (Z.1 μ).1.2.2.2.2.1.2 ((fun b => (Z.2 μ b).1) b) (jx_jp Z (jx_sim l Z) μ Q b) := fun b H locs cells slots ls lv st bc bs w hS hH hl hc hs hh => hh G p e s m args below meth c Φ X hR H locs cells slots ls hS hH (jx_pick_has hl _) hc hs
  have key : ∀ (is : List jx_I) (pc : Nat), jx_bchk Z.1 (fun b => (Z.2 μ b).1) (Z.1 μ).1 pc is = true → jx_KS p l e (jx_rm (Z.1 μ).1) s m args below meth c Φ G (Z.1 μ).1.2.2.1 (Z.1 μ).1.2.2.2.2.1.1 (Z.1 μ).1.2.2.2.2.1.2 pc (jx_blk (jx_Tb Z.1) (jx_cl Z (jx_sim l Z)) (jx_jp Z (jx_sim l Z) μ Q) Q is) := by
    intro is
    induction is with
    | nil => intro pc _ H locs cells slots ls lv st bc bs w _ _ _ _ _ hh; exact hh.elim
    | cons i t ih =>
      intro pc hb
      unfold jx_bchk at hb
      simp only [Bool.and_eq_true] at hb
      exact jx_chk_ok X (jx_met hv G) hR hj hb.1 (ih (pc + i.1) hb.2)
  exact key _ _ ((hv μ).2.2 b) H locs cells slots ls lv st bc bs w hS hH hl hc hs h
/-- THE SIMULATION -/
theorem jx_sound {l : Launch} {Z : jx_Z} (hv : jx_valid Z) {μ b : Nat} {lv : jx_L} {st : List Value} {bc bs : Nat} {w : jx_W} {Q : jx_Q} (h : jx_wp Z μ b lv st bc bs w Q) : jx_sim l Z μ b lv st bc bs w Q := h (jx_sim l Z) (jx_sim_mono l Z) (jx_sim_step hv)
end
