section
-- ===== PART A: goes FIRST, ahead of the names: the tables' words, and 'selects' of the private methods out of them =====
/-- a private method of a class that the tables say can be made, by its rows of tables_1 -/
def lw_okq (q : MethodName × Nat) : Prop := (q.1.cls ≠ "java/lang/invoke/MethodHandle" ∧ q.1.cls ≠ "java/lang/invoke/VarHandle") ∧ Cond.instantiable q.1.cls q.2 ∈ tables_1 ∧ Cond.privateMethod q.1 ∈ tables_1 ∧ Cond.instanceMethod q.1 ∈ tables_1
theorem lw_p0 : lw_okq (⟨"TornStreams", "firstWrongByte", "()I"⟩, 8) := ⟨⟨by decide +kernel, by decide +kernel⟩, List.mem_of_getElem? (i := 16) (by decide +kernel), List.mem_of_getElem? (i := 323) (by decide +kernel), List.mem_of_getElem? (i := 324) (by decide +kernel)⟩
theorem lw_p1 : lw_okq (⟨"TornStreams", "record", "()V"⟩, 8) := ⟨⟨by decide +kernel, by decide +kernel⟩, List.mem_of_getElem? (i := 16) (by decide +kernel), List.mem_of_getElem? (i := 330) (by decide +kernel), List.mem_of_getElem? (i := 331) (by decide +kernel)⟩
theorem lw_p2 : lw_okq (⟨"TornStreams", "dropOldest", "()V"⟩, 8) := ⟨⟨by decide +kernel, by decide +kernel⟩, List.mem_of_getElem? (i := 16) (by decide +kernel), List.mem_of_getElem? (i := 334) (by decide +kernel), List.mem_of_getElem? (i := 335) (by decide +kernel)⟩
theorem lw_p3 : lw_okq (⟨"TornStreams$Segments", "put", "(I[BIII)V"⟩, 4) := ⟨⟨by decide +kernel, by decide +kernel⟩, List.mem_of_getElem? (i := 122) (by decide +kernel), List.mem_of_getElem? (i := 371) (by decide +kernel), List.mem_of_getElem? (i := 372) (by decide +kernel)⟩
theorem lw_p4 : lw_okq (⟨"TornStreams", "wordsChanged", "()V"⟩, 8) := ⟨⟨by decide +kernel, by decide +kernel⟩, List.mem_of_getElem? (i := 16) (by decide +kernel), List.mem_of_getElem? (i := 388) (by decide +kernel), List.mem_of_getElem? (i := 389) (by decide +kernel)⟩
theorem lw_p5 : lw_okq (⟨"TornStreams$Automaton", "addChildren", "(LTornStreams$Words;II)V"⟩, 9) := ⟨⟨by decide +kernel, by decide +kernel⟩, List.mem_of_getElem? (i := 24) (by decide +kernel), List.mem_of_getElem? (i := 399) (by decide +kernel), List.mem_of_getElem? (i := 400) (by decide +kernel)⟩
theorem lw_p6 : lw_okq (⟨"TornStreams$Automaton", "added", "(III)I"⟩, 9) := ⟨⟨by decide +kernel, by decide +kernel⟩, List.mem_of_getElem? (i := 24) (by decide +kernel), List.mem_of_getElem? (i := 407) (by decide +kernel), List.mem_of_getElem? (i := 408) (by decide +kernel)⟩
theorem lw_p7 : lw_okq (⟨"TornStreams$Automaton", "link", "(I)V"⟩, 9) := ⟨⟨by decide +kernel, by decide +kernel⟩, List.mem_of_getElem? (i := 24) (by decide +kernel), List.mem_of_getElem? (i := 412) (by decide +kernel), List.mem_of_getElem? (i := 413) (by decide +kernel)⟩
theorem lw_p8 : lw_okq (⟨"TornStreams", "segmentError", "(II)I"⟩, 8) := ⟨⟨by decide +kernel, by decide +kernel⟩, List.mem_of_getElem? (i := 16) (by decide +kernel), List.mem_of_getElem? (i := 466) (by decide +kernel), List.mem_of_getElem? (i := 467) (by decide +kernel)⟩
theorem lw_p9 : lw_okq (⟨"TornStreams", "handled", "(LTornStreams$State;II)I"⟩, 8) := ⟨⟨by decide +kernel, by decide +kernel⟩, List.mem_of_getElem? (i := 16) (by decide +kernel), List.mem_of_getElem? (i := 478) (by decide +kernel), List.mem_of_getElem? (i := 479) (by decide +kernel)⟩
theorem lw_p10 : lw_okq (⟨"TornStreams$State", "movedToEnd", "(I)LTornStreams$Flow;"⟩, 6) := ⟨⟨by decide +kernel, by decide +kernel⟩, List.mem_of_getElem? (i := 68) (by decide +kernel), List.mem_of_getElem? (i := 495) (by decide +kernel), List.mem_of_getElem? (i := 496) (by decide +kernel)⟩
theorem lw_p11 : lw_okq (⟨"TornStreams$Flow", "deliver", "()V"⟩, 12) := ⟨⟨by decide +kernel, by decide +kernel⟩, List.mem_of_getElem? (i := 116) (by decide +kernel), List.mem_of_getElem? (i := 513) (by decide +kernel), List.mem_of_getElem? (i := 514) (by decide +kernel)⟩
theorem lw_p12 : lw_okq (⟨"TornStreams$Flow", "chosenPiece", "(I)I"⟩, 12) := ⟨⟨by decide +kernel, by decide +kernel⟩, List.mem_of_getElem? (i := 116) (by decide +kernel), List.mem_of_getElem? (i := 517) (by decide +kernel), List.mem_of_getElem? (i := 518) (by decide +kernel)⟩
theorem lw_p13 : lw_okq (⟨"TornStreams$Flow", "isPreferred", "(II)Z"⟩, 12) := ⟨⟨by decide +kernel, by decide +kernel⟩, List.mem_of_getElem? (i := 116) (by decide +kernel), List.mem_of_getElem? (i := 525) (by decide +kernel), List.mem_of_getElem? (i := 526) (by decide +kernel)⟩
theorem lw_p14 : lw_okq (⟨"TornStreams$Flow", "isDisputed", "(II)Z"⟩, 12) := ⟨⟨by decide +kernel, by decide +kernel⟩, List.mem_of_getElem? (i := 116) (by decide +kernel), List.mem_of_getElem? (i := 534) (by decide +kernel), List.mem_of_getElem? (i := 535) (by decide +kernel)⟩
theorem lw_p15 : lw_okq (⟨"TornStreams$Reader", "come", "(III)V"⟩, 15) := ⟨⟨by decide +kernel, by decide +kernel⟩, List.mem_of_getElem? (i := 148) (by decide +kernel), List.mem_of_getElem? (i := 542) (by decide +kernel), List.mem_of_getElem? (i := 543) (by decide +kernel)⟩
def lw_privs_1 : List (MethodName × Nat) := [(⟨"TornStreams", "firstWrongByte", "()I"⟩, 8), (⟨"TornStreams", "record", "()V"⟩, 8), (⟨"TornStreams", "dropOldest", "()V"⟩, 8), (⟨"TornStreams$Segments", "put", "(I[BIII)V"⟩, 4), (⟨"TornStreams", "wordsChanged", "()V"⟩, 8), (⟨"TornStreams$Automaton", "addChildren", "(LTornStreams$Words;II)V"⟩, 9), (⟨"TornStreams$Automaton", "added", "(III)I"⟩, 9), (⟨"TornStreams$Automaton", "link", "(I)V"⟩, 9), (⟨"TornStreams", "segmentError", "(II)I"⟩, 8), (⟨"TornStreams", "handled", "(LTornStreams$State;II)I"⟩, 8), (⟨"TornStreams$State", "movedToEnd", "(I)LTornStreams$Flow;"⟩, 6), (⟨"TornStreams$Flow", "deliver", "()V"⟩, 12), (⟨"TornStreams$Flow", "chosenPiece", "(I)I"⟩, 12), (⟨"TornStreams$Flow", "isPreferred", "(II)Z"⟩, 12), (⟨"TornStreams$Flow", "isDisputed", "(II)Z"⟩, 12), (⟨"TornStreams$Reader", "come", "(III)V"⟩, 15)]
theorem lw_r1 : ∀ q ∈ lw_privs_1, lw_okq q := List.forall_mem_cons.mpr ⟨lw_p0, List.forall_mem_cons.mpr ⟨lw_p1, List.forall_mem_cons.mpr ⟨lw_p2, List.forall_mem_cons.mpr ⟨lw_p3, List.forall_mem_cons.mpr ⟨lw_p4, List.forall_mem_cons.mpr ⟨lw_p5, List.forall_mem_cons.mpr ⟨lw_p6, List.forall_mem_cons.mpr ⟨lw_p7, List.forall_mem_cons.mpr ⟨lw_p8, List.forall_mem_cons.mpr ⟨lw_p9, List.forall_mem_cons.mpr ⟨lw_p10, List.forall_mem_cons.mpr ⟨lw_p11, List.forall_mem_cons.mpr ⟨lw_p12, List.forall_mem_cons.mpr ⟨lw_p13, List.forall_mem_cons.mpr ⟨lw_p14, List.forall_mem_cons.mpr ⟨lw_p15, fun _ h => absurd h List.not_mem_nil⟩⟩⟩⟩⟩⟩⟩⟩⟩⟩⟩⟩⟩⟩⟩⟩
theorem lw_p16 : lw_okq (⟨"TornStreams$Reader", "isDropped", "(I)Z"⟩, 15) := ⟨⟨by decide +kernel, by decide +kernel⟩, List.mem_of_getElem? (i := 148) (by decide +kernel), List.mem_of_getElem? (i := 546) (by decide +kernel), List.mem_of_getElem? (i := 547) (by decide +kernel)⟩
theorem lw_p17 : lw_okq (⟨"TornStreams$Reader", "firstIndexOf", "(I)I"⟩, 15) := ⟨⟨by decide +kernel, by decide +kernel⟩, List.mem_of_getElem? (i := 148) (by decide +kernel), List.mem_of_getElem? (i := 560) (by decide +kernel), List.mem_of_getElem? (i := 561) (by decide +kernel)⟩
theorem lw_p18 : lw_okq (⟨"TornStreams$Segments", "isCoveredBefore", "(II)Z"⟩, 4) := ⟨⟨by decide +kernel, by decide +kernel⟩, List.mem_of_getElem? (i := 122) (by decide +kernel), List.mem_of_getElem? (i := 592) (by decide +kernel), List.mem_of_getElem? (i := 593) (by decide +kernel)⟩
theorem lw_p19 : lw_okq (⟨"TornStreams$Flow", "skipGap", "()V"⟩, 12) := ⟨⟨by decide +kernel, by decide +kernel⟩, List.mem_of_getElem? (i := 116) (by decide +kernel), List.mem_of_getElem? (i := 596) (by decide +kernel), List.mem_of_getElem? (i := 597) (by decide +kernel)⟩
theorem lw_p20 : lw_okq (⟨"TornStreams", "wordsBy", "(LTornStreams$Flow;I)I"⟩, 8) := ⟨⟨by decide +kernel, by decide +kernel⟩, List.mem_of_getElem? (i := 16) (by decide +kernel), List.mem_of_getElem? (i := 700) (by decide +kernel), List.mem_of_getElem? (i := 701) (by decide +kernel)⟩
theorem lw_p21 : lw_okq (⟨"TornStreamsModel", "lays", "()V"⟩, 17) := ⟨⟨by decide +kernel, by decide +kernel⟩, List.mem_of_getElem? (i := 736) (by decide +kernel), List.mem_of_getElem? (i := 742) (by decide +kernel), List.mem_of_getElem? (i := 743) (by decide +kernel)⟩
theorem lw_p22 : lw_okq (⟨"TornStreamsModel", "wordLength", "(I)I"⟩, 17) := ⟨⟨by decide +kernel, by decide +kernel⟩, List.mem_of_getElem? (i := 736) (by decide +kernel), List.mem_of_getElem? (i := 746) (by decide +kernel), List.mem_of_getElem? (i := 747) (by decide +kernel)⟩
theorem lw_p23 : lw_okq (⟨"TornStreamsModel", "letterOf", "(II)I"⟩, 17) := ⟨⟨by decide +kernel, by decide +kernel⟩, List.mem_of_getElem? (i := 736) (by decide +kernel), List.mem_of_getElem? (i := 750) (by decide +kernel), List.mem_of_getElem? (i := 751) (by decide +kernel)⟩
theorem lw_p24 : lw_okq (⟨"TornStreamsModel", "inserts", "(I)V"⟩, 17) := ⟨⟨by decide +kernel, by decide +kernel⟩, List.mem_of_getElem? (i := 736) (by decide +kernel), List.mem_of_getElem? (i := 754) (by decide +kernel), List.mem_of_getElem? (i := 755) (by decide +kernel)⟩
theorem lw_p25 : lw_okq (⟨"TornStreamsModel", "order", "(II)I"⟩, 17) := ⟨⟨by decide +kernel, by decide +kernel⟩, List.mem_of_getElem? (i := 736) (by decide +kernel), List.mem_of_getElem? (i := 758) (by decide +kernel), List.mem_of_getElem? (i := 759) (by decide +kernel)⟩
theorem lw_p26 : lw_okq (⟨"TornStreamsModel", "endsWith", "(II)Z"⟩, 17) := ⟨⟨by decide +kernel, by decide +kernel⟩, List.mem_of_getElem? (i := 736) (by decide +kernel), List.mem_of_getElem? (i := 762) (by decide +kernel), List.mem_of_getElem? (i := 763) (by decide +kernel)⟩
theorem lw_p27 : lw_okq (⟨"TornStreamsModel", "takes", "(I)V"⟩, 17) := ⟨⟨by decide +kernel, by decide +kernel⟩, List.mem_of_getElem? (i := 736) (by decide +kernel), List.mem_of_getElem? (i := 766) (by decide +kernel), List.mem_of_getElem? (i := 767) (by decide +kernel)⟩
theorem lw_p28 : lw_okq (⟨"TornStreamsModel", "nodeOf", "(II)I"⟩, 17) := ⟨⟨by decide +kernel, by decide +kernel⟩, List.mem_of_getElem? (i := 736) (by decide +kernel), List.mem_of_getElem? (i := 770) (by decide +kernel), List.mem_of_getElem? (i := 771) (by decide +kernel)⟩
theorem lw_p29 : lw_okq (⟨"TornStreamsModel", "longest", "(II)I"⟩, 17) := ⟨⟨by decide +kernel, by decide +kernel⟩, List.mem_of_getElem? (i := 736) (by decide +kernel), List.mem_of_getElem? (i := 774) (by decide +kernel), List.mem_of_getElem? (i := 775) (by decide +kernel)⟩
theorem lw_p30 : lw_okq (⟨"TornStreamsModel", "faultOf", "()I"⟩, 17) := ⟨⟨by decide +kernel, by decide +kernel⟩, List.mem_of_getElem? (i := 736) (by decide +kernel), List.mem_of_getElem? (i := 848) (by decide +kernel), List.mem_of_getElem? (i := 849) (by decide +kernel)⟩
theorem lw_p31 : lw_okq (⟨"TornStreamsModel", "begins", "()V"⟩, 17) := ⟨⟨by decide +kernel, by decide +kernel⟩, List.mem_of_getElem? (i := 736) (by decide +kernel), List.mem_of_getElem? (i := 852) (by decide +kernel), List.mem_of_getElem? (i := 853) (by decide +kernel)⟩
def lw_privs_2 : List (MethodName × Nat) := [(⟨"TornStreams$Reader", "isDropped", "(I)Z"⟩, 15), (⟨"TornStreams$Reader", "firstIndexOf", "(I)I"⟩, 15), (⟨"TornStreams$Segments", "isCoveredBefore", "(II)Z"⟩, 4), (⟨"TornStreams$Flow", "skipGap", "()V"⟩, 12), (⟨"TornStreams", "wordsBy", "(LTornStreams$Flow;I)I"⟩, 8), (⟨"TornStreamsModel", "lays", "()V"⟩, 17), (⟨"TornStreamsModel", "wordLength", "(I)I"⟩, 17), (⟨"TornStreamsModel", "letterOf", "(II)I"⟩, 17), (⟨"TornStreamsModel", "inserts", "(I)V"⟩, 17), (⟨"TornStreamsModel", "order", "(II)I"⟩, 17), (⟨"TornStreamsModel", "endsWith", "(II)Z"⟩, 17), (⟨"TornStreamsModel", "takes", "(I)V"⟩, 17), (⟨"TornStreamsModel", "nodeOf", "(II)I"⟩, 17), (⟨"TornStreamsModel", "longest", "(II)I"⟩, 17), (⟨"TornStreamsModel", "faultOf", "()I"⟩, 17), (⟨"TornStreamsModel", "begins", "()V"⟩, 17)]
theorem lw_r2 : ∀ q ∈ lw_privs_2, lw_okq q := List.forall_mem_cons.mpr ⟨lw_p16, List.forall_mem_cons.mpr ⟨lw_p17, List.forall_mem_cons.mpr ⟨lw_p18, List.forall_mem_cons.mpr ⟨lw_p19, List.forall_mem_cons.mpr ⟨lw_p20, List.forall_mem_cons.mpr ⟨lw_p21, List.forall_mem_cons.mpr ⟨lw_p22, List.forall_mem_cons.mpr ⟨lw_p23, List.forall_mem_cons.mpr ⟨lw_p24, List.forall_mem_cons.mpr ⟨lw_p25, List.forall_mem_cons.mpr ⟨lw_p26, List.forall_mem_cons.mpr ⟨lw_p27, List.forall_mem_cons.mpr ⟨lw_p28, List.forall_mem_cons.mpr ⟨lw_p29, List.forall_mem_cons.mpr ⟨lw_p30, List.forall_mem_cons.mpr ⟨lw_p31, fun _ h => absurd h List.not_mem_nil⟩⟩⟩⟩⟩⟩⟩⟩⟩⟩⟩⟩⟩⟩⟩⟩
theorem lw_p32 : lw_okq (⟨"TornStreamsModel", "copies", "(II)V"⟩, 17) := ⟨⟨by decide +kernel, by decide +kernel⟩, List.mem_of_getElem? (i := 736) (by decide +kernel), List.mem_of_getElem? (i := 856) (by decide +kernel), List.mem_of_getElem? (i := 857) (by decide +kernel)⟩
theorem lw_p33 : lw_okq (⟨"TornStreamsModel", "others", "()I"⟩, 17) := ⟨⟨by decide +kernel, by decide +kernel⟩, List.mem_of_getElem? (i := 736) (by decide +kernel), List.mem_of_getElem? (i := 860) (by decide +kernel), List.mem_of_getElem? (i := 861) (by decide +kernel)⟩
theorem lw_p34 : lw_okq (⟨"TornStreamsModel", "slot", "(I)I"⟩, 17) := ⟨⟨by decide +kernel, by decide +kernel⟩, List.mem_of_getElem? (i := 736) (by decide +kernel), List.mem_of_getElem? (i := 864) (by decide +kernel), List.mem_of_getElem? (i := 865) (by decide +kernel)⟩
theorem lw_p35 : lw_okq (⟨"TornStreamsModel", "wrong", "(II)I"⟩, 17) := ⟨⟨by decide +kernel, by decide +kernel⟩, List.mem_of_getElem? (i := 736) (by decide +kernel), List.mem_of_getElem? (i := 892) (by decide +kernel), List.mem_of_getElem? (i := 893) (by decide +kernel)⟩
theorem lw_p36 : lw_okq (⟨"TornStreamsModel", "placeOf", "(I)I"⟩, 17) := ⟨⟨by decide +kernel, by decide +kernel⟩, List.mem_of_getElem? (i := 736) (by decide +kernel), List.mem_of_getElem? (i := 896) (by decide +kernel), List.mem_of_getElem? (i := 897) (by decide +kernel)⟩
theorem lw_p37 : lw_okq (⟨"TornStreamsModel", "segments", "(II)V"⟩, 17) := ⟨⟨by decide +kernel, by decide +kernel⟩, List.mem_of_getElem? (i := 736) (by decide +kernel), List.mem_of_getElem? (i := 900) (by decide +kernel), List.mem_of_getElem? (i := 901) (by decide +kernel)⟩
theorem lw_p38 : lw_okq (⟨"TornStreamsModel", "leaves", "(I)V"⟩, 17) := ⟨⟨by decide +kernel, by decide +kernel⟩, List.mem_of_getElem? (i := 736) (by decide +kernel), List.mem_of_getElem? (i := 904) (by decide +kernel), List.mem_of_getElem? (i := 905) (by decide +kernel)⟩
theorem lw_p39 : lw_okq (⟨"TornStreamsModel", "freeSlot", "()I"⟩, 17) := ⟨⟨by decide +kernel, by decide +kernel⟩, List.mem_of_getElem? (i := 736) (by decide +kernel), List.mem_of_getElem? (i := 908) (by decide +kernel), List.mem_of_getElem? (i := 909) (by decide +kernel)⟩
theorem lw_p40 : lw_okq (⟨"TornStreamsModel", "starts", "(IIII)V"⟩, 17) := ⟨⟨by decide +kernel, by decide +kernel⟩, List.mem_of_getElem? (i := 736) (by decide +kernel), List.mem_of_getElem? (i := 912) (by decide +kernel), List.mem_of_getElem? (i := 913) (by decide +kernel)⟩
theorem lw_p41 : lw_okq (⟨"TornStreamsModel", "put", "(II)V"⟩, 17) := ⟨⟨by decide +kernel, by decide +kernel⟩, List.mem_of_getElem? (i := 736) (by decide +kernel), List.mem_of_getElem? (i := 916) (by decide +kernel), List.mem_of_getElem? (i := 917) (by decide +kernel)⟩
theorem lw_p42 : lw_okq (⟨"TornStreamsModel", "of", "(I)I"⟩, 17) := ⟨⟨by decide +kernel, by decide +kernel⟩, List.mem_of_getElem? (i := 736) (by decide +kernel), List.mem_of_getElem? (i := 920) (by decide +kernel), List.mem_of_getElem? (i := 921) (by decide +kernel)⟩
theorem lw_p43 : lw_okq (⟨"TornStreamsModel", "adds", "(II)V"⟩, 17) := ⟨⟨by decide +kernel, by decide +kernel⟩, List.mem_of_getElem? (i := 736) (by decide +kernel), List.mem_of_getElem? (i := 924) (by decide +kernel), List.mem_of_getElem? (i := 925) (by decide +kernel)⟩
theorem lw_p44 : lw_okq (⟨"TornStreamsModel", "handlesText", "(I)V"⟩, 17) := ⟨⟨by decide +kernel, by decide +kernel⟩, List.mem_of_getElem? (i := 736) (by decide +kernel), List.mem_of_getElem? (i := 928) (by decide +kernel), List.mem_of_getElem? (i := 929) (by decide +kernel)⟩
theorem lw_p45 : lw_okq (⟨"TornStreamsModel", "handles", "(III)V"⟩, 17) := ⟨⟨by decide +kernel, by decide +kernel⟩, List.mem_of_getElem? (i := 736) (by decide +kernel), List.mem_of_getElem? (i := 932) (by decide +kernel), List.mem_of_getElem? (i := 933) (by decide +kernel)⟩
theorem lw_p46 : lw_okq (⟨"TornStreamsModel", "pieceAt", "(I)I"⟩, 17) := ⟨⟨by decide +kernel, by decide +kernel⟩, List.mem_of_getElem? (i := 736) (by decide +kernel), List.mem_of_getElem? (i := 936) (by decide +kernel), List.mem_of_getElem? (i := 937) (by decide +kernel)⟩
theorem lw_p47 : lw_okq (⟨"TornStreamsModel", "deliversAll", "()V"⟩, 17) := ⟨⟨by decide +kernel, by decide +kernel⟩, List.mem_of_getElem? (i := 736) (by decide +kernel), List.mem_of_getElem? (i := 940) (by decide +kernel), List.mem_of_getElem? (i := 941) (by decide +kernel)⟩
def lw_privs_3 : List (MethodName × Nat) := [(⟨"TornStreamsModel", "copies", "(II)V"⟩, 17), (⟨"TornStreamsModel", "others", "()I"⟩, 17), (⟨"TornStreamsModel", "slot", "(I)I"⟩, 17), (⟨"TornStreamsModel", "wrong", "(II)I"⟩, 17), (⟨"TornStreamsModel", "placeOf", "(I)I"⟩, 17), (⟨"TornStreamsModel", "segments", "(II)V"⟩, 17), (⟨"TornStreamsModel", "leaves", "(I)V"⟩, 17), (⟨"TornStreamsModel", "freeSlot", "()I"⟩, 17), (⟨"TornStreamsModel", "starts", "(IIII)V"⟩, 17), (⟨"TornStreamsModel", "put", "(II)V"⟩, 17), (⟨"TornStreamsModel", "of", "(I)I"⟩, 17), (⟨"TornStreamsModel", "adds", "(II)V"⟩, 17), (⟨"TornStreamsModel", "handlesText", "(I)V"⟩, 17), (⟨"TornStreamsModel", "handles", "(III)V"⟩, 17), (⟨"TornStreamsModel", "pieceAt", "(I)I"⟩, 17), (⟨"TornStreamsModel", "deliversAll", "()V"⟩, 17)]
theorem lw_r3 : ∀ q ∈ lw_privs_3, lw_okq q := List.forall_mem_cons.mpr ⟨lw_p32, List.forall_mem_cons.mpr ⟨lw_p33, List.forall_mem_cons.mpr ⟨lw_p34, List.forall_mem_cons.mpr ⟨lw_p35, List.forall_mem_cons.mpr ⟨lw_p36, List.forall_mem_cons.mpr ⟨lw_p37, List.forall_mem_cons.mpr ⟨lw_p38, List.forall_mem_cons.mpr ⟨lw_p39, List.forall_mem_cons.mpr ⟨lw_p40, List.forall_mem_cons.mpr ⟨lw_p41, List.forall_mem_cons.mpr ⟨lw_p42, List.forall_mem_cons.mpr ⟨lw_p43, List.forall_mem_cons.mpr ⟨lw_p44, List.forall_mem_cons.mpr ⟨lw_p45, List.forall_mem_cons.mpr ⟨lw_p46, List.forall_mem_cons.mpr ⟨lw_p47, fun _ h => absurd h List.not_mem_nil⟩⟩⟩⟩⟩⟩⟩⟩⟩⟩⟩⟩⟩⟩⟩⟩
theorem lw_p48 : lw_okq (⟨"TornStreamsModel", "chosen", "(I)I"⟩, 17) := ⟨⟨by decide +kernel, by decide +kernel⟩, List.mem_of_getElem? (i := 736) (by decide +kernel), List.mem_of_getElem? (i := 944) (by decide +kernel), List.mem_of_getElem? (i := 945) (by decide +kernel)⟩
theorem lw_p49 : lw_okq (⟨"TornStreamsModel", "covers", "(II)Z"⟩, 17) := ⟨⟨by decide +kernel, by decide +kernel⟩, List.mem_of_getElem? (i := 736) (by decide +kernel), List.mem_of_getElem? (i := 948) (by decide +kernel), List.mem_of_getElem? (i := 949) (by decide +kernel)⟩
theorem lw_p50 : lw_okq (⟨"TornStreamsModel", "isBetter", "(II)Z"⟩, 17) := ⟨⟨by decide +kernel, by decide +kernel⟩, List.mem_of_getElem? (i := 736) (by decide +kernel), List.mem_of_getElem? (i := 952) (by decide +kernel), List.mem_of_getElem? (i := 953) (by decide +kernel)⟩
theorem lw_p51 : lw_okq (⟨"TornStreamsModel", "byteOf", "(II)I"⟩, 17) := ⟨⟨by decide +kernel, by decide +kernel⟩, List.mem_of_getElem? (i := 736) (by decide +kernel), List.mem_of_getElem? (i := 956) (by decide +kernel), List.mem_of_getElem? (i := 957) (by decide +kernel)⟩
theorem lw_p52 : lw_okq (⟨"TornStreamsModel", "isConflict", "(I)Z"⟩, 17) := ⟨⟨by decide +kernel, by decide +kernel⟩, List.mem_of_getElem? (i := 736) (by decide +kernel), List.mem_of_getElem? (i := 960) (by decide +kernel), List.mem_of_getElem? (i := 961) (by decide +kernel)⟩
theorem lw_p53 : lw_okq (⟨"TornStreamsModel", "delivers", "(II)V"⟩, 17) := ⟨⟨by decide +kernel, by decide +kernel⟩, List.mem_of_getElem? (i := 736) (by decide +kernel), List.mem_of_getElem? (i := 964) (by decide +kernel), List.mem_of_getElem? (i := 965) (by decide +kernel)⟩
theorem lw_p54 : lw_okq (⟨"TornStreamsModel", "character", "(III)V"⟩, 17) := ⟨⟨by decide +kernel, by decide +kernel⟩, List.mem_of_getElem? (i := 736) (by decide +kernel), List.mem_of_getElem? (i := 971) (by decide +kernel), List.mem_of_getElem? (i := 972) (by decide +kernel)⟩
theorem lw_p55 : lw_okq (⟨"TornStreamsModel", "has", "(I)Z"⟩, 17) := ⟨⟨by decide +kernel, by decide +kernel⟩, List.mem_of_getElem? (i := 736) (by decide +kernel), List.mem_of_getElem? (i := 975) (by decide +kernel), List.mem_of_getElem? (i := 976) (by decide +kernel)⟩
theorem lw_p56 : lw_okq (⟨"TornStreamsModel", "reads", "(III)V"⟩, 17) := ⟨⟨by decide +kernel, by decide +kernel⟩, List.mem_of_getElem? (i := 736) (by decide +kernel), List.mem_of_getElem? (i := 979) (by decide +kernel), List.mem_of_getElem? (i := 980) (by decide +kernel)⟩
theorem lw_p57 : lw_okq (⟨"TornStreamsModel", "steps", "(I)V"⟩, 17) := ⟨⟨by decide +kernel, by decide +kernel⟩, List.mem_of_getElem? (i := 736) (by decide +kernel), List.mem_of_getElem? (i := 983) (by decide +kernel), List.mem_of_getElem? (i := 984) (by decide +kernel)⟩
theorem lw_p58 : lw_okq (⟨"TornStreamsModel", "isPossible", "(I)Z"⟩, 17) := ⟨⟨by decide +kernel, by decide +kernel⟩, List.mem_of_getElem? (i := 736) (by decide +kernel), List.mem_of_getElem? (i := 987) (by decide +kernel), List.mem_of_getElem? (i := 988) (by decide +kernel)⟩
theorem lw_p59 : lw_okq (⟨"TornStreamsModel", "laysPossible", "(II)V"⟩, 17) := ⟨⟨by decide +kernel, by decide +kernel⟩, List.mem_of_getElem? (i := 736) (by decide +kernel), List.mem_of_getElem? (i := 997) (by decide +kernel), List.mem_of_getElem? (i := 998) (by decide +kernel)⟩
theorem lw_p60 : lw_okq (⟨"TornStreamsModel", "records", "(III)V"⟩, 17) := ⟨⟨by decide +kernel, by decide +kernel⟩, List.mem_of_getElem? (i := 736) (by decide +kernel), List.mem_of_getElem? (i := 1001) (by decide +kernel), List.mem_of_getElem? (i := 1002) (by decide +kernel)⟩
theorem lw_p61 : lw_okq (⟨"TornStreamsModel", "lets", "()V"⟩, 17) := ⟨⟨by decide +kernel, by decide +kernel⟩, List.mem_of_getElem? (i := 736) (by decide +kernel), List.mem_of_getElem? (i := 1005) (by decide +kernel), List.mem_of_getElem? (i := 1006) (by decide +kernel)⟩
theorem lw_p62 : lw_okq (⟨"TornStreamsModel", "drops", "()V"⟩, 17) := ⟨⟨by decide +kernel, by decide +kernel⟩, List.mem_of_getElem? (i := 736) (by decide +kernel), List.mem_of_getElem? (i := 1009) (by decide +kernel), List.mem_of_getElem? (i := 1010) (by decide +kernel)⟩
theorem lw_p63 : lw_okq (⟨"TornStreamsModel", "covered", "(Z)I"⟩, 17) := ⟨⟨by decide +kernel, by decide +kernel⟩, List.mem_of_getElem? (i := 736) (by decide +kernel), List.mem_of_getElem? (i := 1013) (by decide +kernel), List.mem_of_getElem? (i := 1014) (by decide +kernel)⟩
def lw_privs_4 : List (MethodName × Nat) := [(⟨"TornStreamsModel", "chosen", "(I)I"⟩, 17), (⟨"TornStreamsModel", "covers", "(II)Z"⟩, 17), (⟨"TornStreamsModel", "isBetter", "(II)Z"⟩, 17), (⟨"TornStreamsModel", "byteOf", "(II)I"⟩, 17), (⟨"TornStreamsModel", "isConflict", "(I)Z"⟩, 17), (⟨"TornStreamsModel", "delivers", "(II)V"⟩, 17), (⟨"TornStreamsModel", "character", "(III)V"⟩, 17), (⟨"TornStreamsModel", "has", "(I)Z"⟩, 17), (⟨"TornStreamsModel", "reads", "(III)V"⟩, 17), (⟨"TornStreamsModel", "steps", "(I)V"⟩, 17), (⟨"TornStreamsModel", "isPossible", "(I)Z"⟩, 17), (⟨"TornStreamsModel", "laysPossible", "(II)V"⟩, 17), (⟨"TornStreamsModel", "records", "(III)V"⟩, 17), (⟨"TornStreamsModel", "lets", "()V"⟩, 17), (⟨"TornStreamsModel", "drops", "()V"⟩, 17), (⟨"TornStreamsModel", "covered", "(Z)I"⟩, 17)]
theorem lw_r4 : ∀ q ∈ lw_privs_4, lw_okq q := List.forall_mem_cons.mpr ⟨lw_p48, List.forall_mem_cons.mpr ⟨lw_p49, List.forall_mem_cons.mpr ⟨lw_p50, List.forall_mem_cons.mpr ⟨lw_p51, List.forall_mem_cons.mpr ⟨lw_p52, List.forall_mem_cons.mpr ⟨lw_p53, List.forall_mem_cons.mpr ⟨lw_p54, List.forall_mem_cons.mpr ⟨lw_p55, List.forall_mem_cons.mpr ⟨lw_p56, List.forall_mem_cons.mpr ⟨lw_p57, List.forall_mem_cons.mpr ⟨lw_p58, List.forall_mem_cons.mpr ⟨lw_p59, List.forall_mem_cons.mpr ⟨lw_p60, List.forall_mem_cons.mpr ⟨lw_p61, List.forall_mem_cons.mpr ⟨lw_p62, List.forall_mem_cons.mpr ⟨lw_p63, fun _ h => absurd h List.not_mem_nil⟩⟩⟩⟩⟩⟩⟩⟩⟩⟩⟩⟩⟩⟩⟩⟩
theorem lw_p64 : lw_okq (⟨"TornStreamsModel", "gap", "(I)V"⟩, 17) := ⟨⟨by decide +kernel, by decide +kernel⟩, List.mem_of_getElem? (i := 736) (by decide +kernel), List.mem_of_getElem? (i := 1017) (by decide +kernel), List.mem_of_getElem? (i := 1018) (by decide +kernel)⟩
theorem lw_p65 : lw_okq (⟨"TornStreamsModel", "asked", "(I)I"⟩, 17) := ⟨⟨by decide +kernel, by decide +kernel⟩, List.mem_of_getElem? (i := 736) (by decide +kernel), List.mem_of_getElem? (i := 1025) (by decide +kernel), List.mem_of_getElem? (i := 1026) (by decide +kernel)⟩
theorem lw_p66 : lw_okq (⟨"TornStreamsModel", "propertyNow", "(I)I"⟩, 17) := ⟨⟨by decide +kernel, by decide +kernel⟩, List.mem_of_getElem? (i := 736) (by decide +kernel), List.mem_of_getElem? (i := 1037) (by decide +kernel), List.mem_of_getElem? (i := 1038) (by decide +kernel)⟩
theorem lw_p67 : lw_okq (⟨"TornStreamsModel", "possibleMany", "()I"⟩, 17) := ⟨⟨by decide +kernel, by decide +kernel⟩, List.mem_of_getElem? (i := 736) (by decide +kernel), List.mem_of_getElem? (i := 1041) (by decide +kernel), List.mem_of_getElem? (i := 1042) (by decide +kernel)⟩
theorem lw_p68 : lw_okq (⟨"TornStreamsModel", "byteNow", "(I)I"⟩, 17) := ⟨⟨by decide +kernel, by decide +kernel⟩, List.mem_of_getElem? (i := 736) (by decide +kernel), List.mem_of_getElem? (i := 1049) (by decide +kernel), List.mem_of_getElem? (i := 1050) (by decide +kernel)⟩
theorem lw_p69 : lw_okq (⟨"TornStreamsModel", "possibleNow", "()J"⟩, 17) := ⟨⟨by decide +kernel, by decide +kernel⟩, List.mem_of_getElem? (i := 736) (by decide +kernel), List.mem_of_getElem? (i := 1057) (by decide +kernel), List.mem_of_getElem? (i := 1058) (by decide +kernel)⟩
theorem lw_p70 : lw_okq (⟨"TornStreamsModel", "readNow", "(I)I"⟩, 17) := ⟨⟨by decide +kernel, by decide +kernel⟩, List.mem_of_getElem? (i := 736) (by decide +kernel), List.mem_of_getElem? (i := 1065) (by decide +kernel), List.mem_of_getElem? (i := 1066) (by decide +kernel)⟩
theorem lw_p71 : lw_okq (⟨"TornStreamsModel", "definedSet", "()I"⟩, 17) := ⟨⟨by decide +kernel, by decide +kernel⟩, List.mem_of_getElem? (i := 736) (by decide +kernel), List.mem_of_getElem? (i := 1077) (by decide +kernel), List.mem_of_getElem? (i := 1078) (by decide +kernel)⟩
theorem lw_p72 : lw_okq (⟨"TornStreamsModel", "replays", "(II)I"⟩, 17) := ⟨⟨by decide +kernel, by decide +kernel⟩, List.mem_of_getElem? (i := 736) (by decide +kernel), List.mem_of_getElem? (i := 1089) (by decide +kernel), List.mem_of_getElem? (i := 1090) (by decide +kernel)⟩
theorem lw_p73 : lw_okq (⟨"TornStreamsModel", "mixedFlow", "(JI)J"⟩, 17) := ⟨⟨by decide +kernel, by decide +kernel⟩, List.mem_of_getElem? (i := 736) (by decide +kernel), List.mem_of_getElem? (i := 1113) (by decide +kernel), List.mem_of_getElem? (i := 1114) (by decide +kernel)⟩
def lw_privs_5 : List (MethodName × Nat) := [(⟨"TornStreamsModel", "gap", "(I)V"⟩, 17), (⟨"TornStreamsModel", "asked", "(I)I"⟩, 17), (⟨"TornStreamsModel", "propertyNow", "(I)I"⟩, 17), (⟨"TornStreamsModel", "possibleMany", "()I"⟩, 17), (⟨"TornStreamsModel", "byteNow", "(I)I"⟩, 17), (⟨"TornStreamsModel", "possibleNow", "()J"⟩, 17), (⟨"TornStreamsModel", "readNow", "(I)I"⟩, 17), (⟨"TornStreamsModel", "definedSet", "()I"⟩, 17), (⟨"TornStreamsModel", "replays", "(II)I"⟩, 17), (⟨"TornStreamsModel", "mixedFlow", "(JI)J"⟩, 17)]
theorem lw_r5 : ∀ q ∈ lw_privs_5, lw_okq q := List.forall_mem_cons.mpr ⟨lw_p64, List.forall_mem_cons.mpr ⟨lw_p65, List.forall_mem_cons.mpr ⟨lw_p66, List.forall_mem_cons.mpr ⟨lw_p67, List.forall_mem_cons.mpr ⟨lw_p68, List.forall_mem_cons.mpr ⟨lw_p69, List.forall_mem_cons.mpr ⟨lw_p70, List.forall_mem_cons.mpr ⟨lw_p71, List.forall_mem_cons.mpr ⟨lw_p72, List.forall_mem_cons.mpr ⟨lw_p73, fun _ h => absurd h List.not_mem_nil⟩⟩⟩⟩⟩⟩⟩⟩⟩⟩
def lw_privs : List (MethodName × Nat) := lw_privs_1 ++ (lw_privs_2 ++ (lw_privs_3 ++ (lw_privs_4 ++ (lw_privs_5))))
def lw_tbl : List Cond := k2_sels lw_privs ++ tables_1
theorem lw_privs_ok : ∀ q ∈ lw_privs, lw_okq q := by
  show ∀ q ∈ lw_privs_1 ++ (lw_privs_2 ++ (lw_privs_3 ++ (lw_privs_4 ++ (lw_privs_5)))), lw_okq q
  exact List.forall_mem_append.mpr ⟨lw_r1, List.forall_mem_append.mpr ⟨lw_r2, List.forall_mem_append.mpr ⟨lw_r3, List.forall_mem_append.mpr ⟨lw_r4, lw_r5⟩⟩⟩⟩
end
section

theorem goodIn_r {big : List Cond} (ws : List Cond) (ps : List Nat) (hp : ws = ps.filterMap (fun i => big[i]?)) (h : ws.all goodWord = true) : GoodIn big ws := by
  intro w hw
  have h1 := List.all_eq_true.mp h w hw
  rw [hp] at hw
  obtain ⟨i, -, hi⟩ := List.mem_filterMap.mp hw
  have hm : w ∈ big := by first | exact List.mem_of_getElem? hi | exact List.getElem?_mem hi
  exact ⟨hm, good_of_word h1⟩
theorem goodIn_app {big a b : List Cond} (ha : GoodIn big a) (hb : GoodIn big b) : GoodIn big (a ++ b) := fun w h => (List.mem_append.mp h).elim (ha w) (hb w)
theorem goodIn_ca {big a b : List Cond} {c : Cond} (ha : GoodIn big (c :: a)) (hb : GoodIn big b) : GoodIn big (c :: (a ++ b)) := fun w h => (List.mem_cons.mp h).elim (fun e => ha w (List.mem_cons.mpr (Or.inl e))) (fun h => (List.mem_append.mp h).elim (fun h => ha w (List.mem_cons.mpr (Or.inr h))) (hb w))
theorem goodIn_sub {big ws : List Cond} (hm : ∀ w ∈ ws, w ∈ big) (h : ws.all goodWord = true) : GoodIn big ws := fun w hw => ⟨hm w hw, good_of_word (List.all_eq_true.mp h w hw)⟩
/-! ===== END ===== -/

/-! ===== BEGIN printed: names, fields, word lists, decode rows ===== -/
def RX0 : String := "TornStreams$Automaton"
def TX0 : u_T := fun k => match k with
  | 0 => ("TornStreams$Automaton", "size", "I", false)
  | 1 => ("TornStreams$Automaton", "lengths", "[I", true)
  | 2 => ("TornStreams$Automaton", "parents", "[I", true)
  | 3 => ("TornStreams$Automaton", "lastLetters", "[I", true)
  | 4 => ("TornStreams$Automaton", "fails", "[I", true)
  | 5 => ("TornStreams$Automaton", "wordSets", "[I", true)
  | 6 => ("TornStreams$Automaton", "wordLengths", "[I", true)
  | 7 => ("TornStreams$Automaton", "nexts", "[I", true)
  | _ => ("TornStreams$Automaton", "reached", "[I", true)
def tyX0 : Nat → FieldType := fun k => match k with
  | 0 => .int
  | 1 => .array .int
  | 2 => .array .int
  | 3 => .array .int
  | 4 => .array .int
  | 5 => .array .int
  | 6 => .array .int
  | 7 => .array .int
  | _ => .array .int
abbrev wsX00 : List Cond := u_ws RX0 TX0 9
theorem nmX0 : ∀ a, a < 9 → ∀ b, b < 9 → a ≠ b → (TX0 a).2.1 ≠ (TX0 b).2.1 := by decide +kernel
theorem tyX0_ok : ∀ k, k < 9 → parseFieldDescriptor (TX0 k).2.2.1 = some (tyX0 k) := by decide +kernel
abbrev cX0_init : ByteArray := prog_2_method_1_code
def yX0_init : MethodName := ⟨RX0, "<init>", "()V"⟩
abbrev cX0_has : ByteArray := prog_2_method_2_code
def yX0_has : MethodName := ⟨RX0, "has", "(I)Z"⟩
abbrev cX0_nextOf : ByteArray := prog_2_method_3_code
def yX0_nextOf : MethodName := ⟨RX0, "nextOf", "(II)I"⟩
abbrev cX0_build : ByteArray := prog_2_method_4_code
def yX0_build : MethodName := ⟨RX0, "build", "(LTornStreams$Words;)V"⟩
abbrev cX0_addChildren : ByteArray := prog_2_method_5_code
def yX0_addChildren : MethodName := ⟨RX0, "addChildren", "(LTornStreams$Words;II)V"⟩
abbrev cX0_added : ByteArray := prog_2_method_6_code
def yX0_added : MethodName := ⟨RX0, "added", "(III)I"⟩
abbrev cX0_link : ByteArray := prog_2_method_7_code
def yX0_link : MethodName := ⟨RX0, "link", "(I)V"⟩
abbrev cX0_nextSet : ByteArray := prog_2_method_8_code
def yX0_nextSet : MethodName := ⟨RX0, "nextSet", "(JI)J"⟩
abbrev cX0_nextSetByAny : ByteArray := prog_2_method_9_code
def yX0_nextSetByAny : MethodName := ⟨RX0, "nextSetByAny", "(J)J"⟩
abbrev cX0_spread : ByteArray := prog_2_method_10_code
def yX0_spread : MethodName := ⟨RX0, "spread", "(JI)J"⟩
abbrev cX0_wordsOfSet : ByteArray := prog_2_method_11_code
def yX0_wordsOfSet : MethodName := ⟨RX0, "wordsOfSet", "(J)I"⟩
abbrev cX0_fewestLettersToWord : ByteArray := prog_2_method_12_code
def yX0_fewestLettersToWord : MethodName := ⟨RX0, "fewestLettersToWord", "(I)I"⟩
def RX1 : String := "TornStreams$Finds"
def TX1 : u_T := fun k => match k with
  | 0 => ("TornStreams$Finds", "sureCount", "I", false)
  | 1 => ("TornStreams$Finds", "doubtfulCount", "I", false)
  | 2 => ("TornStreams$Finds", "keys", "[I", true)
  | 3 => ("TornStreams$Finds", "words", "[I", true)
  | 4 => ("TornStreams$Finds", "firsts", "[I", true)
  | _ => ("TornStreams$Finds", "ends", "[I", true)
def tyX1 : Nat → FieldType := fun k => match k with
  | 0 => .int
  | 1 => .int
  | 2 => .array .int
  | 3 => .array .int
  | 4 => .array .int
  | _ => .array .int
abbrev wsX10 : List Cond := u_ws RX1 TX1 6
theorem nmX1 : ∀ a, a < 6 → ∀ b, b < 6 → a ≠ b → (TX1 a).2.1 ≠ (TX1 b).2.1 := by decide +kernel
theorem tyX1_ok : ∀ k, k < 6 → parseFieldDescriptor (TX1 k).2.2.1 = some (tyX1 k) := by decide +kernel
abbrev cX1_init : ByteArray := prog_3_method_1_code
def yX1_init : MethodName := ⟨RX1, "<init>", "()V"⟩
abbrev cX1_copyFrom : ByteArray := prog_3_method_2_code
def yX1_copyFrom : MethodName := ⟨RX1, "copyFrom", "(LTornStreams$Finds;)V"⟩
abbrev cX1_made : ByteArray := prog_3_method_3_code
def yX1_made : MethodName := ⟨RX1, "made", "()I"⟩
abbrev cX1_remembered : ByteArray := prog_3_method_4_code
def yX1_remembered : MethodName := ⟨RX1, "remembered", "()I"⟩
abbrev cX1_add : ByteArray := prog_3_method_5_code
def yX1_add : MethodName := ⟨RX1, "add", "(IIII)V"⟩
abbrev cX1_tell : ByteArray := prog_3_method_6_code
def yX1_tell : MethodName := ⟨RX1, "tell", "(II)I"⟩
def RX2 : String := "TornStreams$Flow"
def TX2 : u_T := fun k => match k with
  | 0 => ("TornStreams$Flow", "key", "I", false)
  | 1 => ("TornStreams$Flow", "policy", "I", false)
  | 2 => ("TornStreams$Flow", "bound", "I", false)
  | 3 => ("TornStreams$Flow", "offset", "I", false)
  | 4 => ("TornStreams$Flow", "pieces", "LTornStreams$Segments;", true)
  | 5 => ("TornStreams$Flow", "log", "LTornStreams$Segments;", true)
  | 6 => ("TornStreams$Flow", "reader", "LTornStreams$Reader;", true)
  | 7 => ("TornStreams$Flow", "segmentCount", "I", false)
  | 8 => ("TornStreams$Flow", "oldCount", "I", false)
  | 9 => ("TornStreams$Flow", "conflictCount", "I", false)
  | 10 => ("TornStreams$Flow", "gapCount", "I", false)
  | _ => ("TornStreams$Flow", "gapBytes", "I", false)
def tyX2 : Nat → FieldType := fun k => match k with
  | 0 => .int
  | 1 => .int
  | 2 => .int
  | 3 => .int
  | 4 => .object "TornStreams$Segments"
  | 5 => .object "TornStreams$Segments"
  | 6 => .object "TornStreams$Reader"
  | 7 => .int
  | 8 => .int
  | 9 => .int
  | 10 => .int
  | _ => .int
abbrev wsX20 : List Cond := u_ws RX2 TX2 12
theorem nmX2 : ∀ a, a < 12 → ∀ b, b < 12 → a ≠ b → (TX2 a).2.1 ≠ (TX2 b).2.1 := by decide +kernel
theorem tyX2_ok : ∀ k, k < 12 → parseFieldDescriptor (TX2 k).2.2.1 = some (tyX2 k) := by decide +kernel
abbrev cX2_init : ByteArray := prog_4_method_1_code
def yX2_init : MethodName := ⟨RX2, "<init>", "(LTornStreams$Automaton;LTornStreams$Finds;)V"⟩
abbrev cX2_begin : ByteArray := prog_4_method_2_code
def yX2_begin : MethodName := ⟨RX2, "begin", "(IIII)V"⟩
abbrev cX2_copyFrom : ByteArray := prog_4_method_3_code
def yX2_copyFrom : MethodName := ⟨RX2, "copyFrom", "(LTornStreams$Flow;)V"⟩
abbrev cX2_accept : ByteArray := prog_4_method_4_code
def yX2_accept : MethodName := ⟨RX2, "accept", "([BIII)V"⟩
abbrev cX2_end : ByteArray := prog_4_method_5_code
def yX2_end : MethodName := ⟨RX2, "end", "()V"⟩
abbrev cX2_deliver : ByteArray := prog_4_method_6_code
def yX2_deliver : MethodName := ⟨RX2, "deliver", "()V"⟩
abbrev cX2_skipGap : ByteArray := prog_4_method_7_code
def yX2_skipGap : MethodName := ⟨RX2, "skipGap", "()V"⟩
abbrev cX2_isDisputed : ByteArray := prog_4_method_8_code
def yX2_isDisputed : MethodName := ⟨RX2, "isDisputed", "(II)Z"⟩
abbrev cX2_chosenPiece : ByteArray := prog_4_method_9_code
def yX2_chosenPiece : MethodName := ⟨RX2, "chosenPiece", "(I)I"⟩
abbrev cX2_isPreferred : ByteArray := prog_4_method_10_code
def yX2_isPreferred : MethodName := ⟨RX2, "isPreferred", "(II)Z"⟩
abbrev cX2_chosenByte : ByteArray := prog_4_method_11_code
def yX2_chosenByte : MethodName := ⟨RX2, "chosenByte", "(I)I"⟩
abbrev cX2_tell : ByteArray := prog_4_method_12_code
def yX2_tell : MethodName := ⟨RX2, "tell", "(I)I"⟩
def RX3 : String := "TornStreams$Reader"
def TX3 : u_T := fun k => match k with
  | 0 => ("TornStreams$Reader", "automaton", "LTornStreams$Automaton;", true)
  | 1 => ("TornStreams$Reader", "finds", "LTornStreams$Finds;", true)
  | 2 => ("TornStreams$Reader", "key", "I", false)
  | 3 => ("TornStreams$Reader", "flags", "I", false)
  | 4 => ("TornStreams$Reader", "heldCount", "I", false)
  | 5 => ("TornStreams$Reader", "heldDigit", "I", false)
  | 6 => ("TornStreams$Reader", "isBehindBlank", "Z", false)
  | 7 => ("TornStreams$Reader", "node", "I", false)
  | 8 => ("TornStreams$Reader", "possible", "J", false)
  | 9 => ("TornStreams$Reader", "characters", "[I", true)
  | 10 => ("TornStreams$Reader", "firstIndices", "[I", true)
  | 11 => ("TornStreams$Reader", "readCount", "I", false)
  | 12 => ("TornStreams$Reader", "sureCount", "I", false)
  | 13 => ("TornStreams$Reader", "doubtfulCount", "I", false)
  | _ => ("TornStreams$Reader", "found", "I", false)
def tyX3 : Nat → FieldType := fun k => match k with
  | 0 => .object "TornStreams$Automaton"
  | 1 => .object "TornStreams$Finds"
  | 2 => .int
  | 3 => .int
  | 4 => .int
  | 5 => .int
  | 6 => .boolean
  | 7 => .int
  | 8 => .long
  | 9 => .array .int
  | 10 => .array .int
  | 11 => .int
  | 12 => .int
  | 13 => .int
  | _ => .int
abbrev wsX30 : List Cond := u_ws RX3 TX3 15
theorem nmX3 : ∀ a, a < 15 → ∀ b, b < 15 → a ≠ b → (TX3 a).2.1 ≠ (TX3 b).2.1 := by decide +kernel
theorem tyX3_ok : ∀ k, k < 15 → parseFieldDescriptor (TX3 k).2.2.1 = some (tyX3 k) := by decide +kernel
abbrev cX3_init : ByteArray := prog_5_method_1_code
def yX3_init : MethodName := ⟨RX3, "<init>", "(LTornStreams$Automaton;LTornStreams$Finds;)V"⟩
abbrev cX3_begin : ByteArray := prog_5_method_2_code
def yX3_begin : MethodName := ⟨RX3, "begin", "(II)V"⟩
abbrev cX3_restart : ByteArray := prog_5_method_3_code
def yX3_restart : MethodName := ⟨RX3, "restart", "()V"⟩
abbrev cX3_copyFrom : ByteArray := prog_5_method_4_code
def yX3_copyFrom : MethodName := ⟨RX3, "copyFrom", "(LTornStreams$Reader;)V"⟩
abbrev cX3_take : ByteArray := prog_5_method_5_code
def yX3_take : MethodName := ⟨RX3, "take", "(II)V"⟩
abbrev cX3_release : ByteArray := prog_5_method_6_code
def yX3_release : MethodName := ⟨RX3, "release", "(I)V"⟩
abbrev cX3_skip : ByteArray := prog_5_method_7_code
def yX3_skip : MethodName := ⟨RX3, "skip", "(II)V"⟩
abbrev cX3_come : ByteArray := prog_5_method_8_code
def yX3_come : MethodName := ⟨RX3, "come", "(III)V"⟩
abbrev cX3_isDropped : ByteArray := prog_5_method_9_code
def yX3_isDropped : MethodName := ⟨RX3, "isDropped", "(I)Z"⟩
abbrev cX3_firstIndexOf : ByteArray := prog_5_method_10_code
def yX3_firstIndexOf : MethodName := ⟨RX3, "firstIndexOf", "(I)I"⟩
abbrev cX3_recentCharacter : ByteArray := prog_5_method_11_code
def yX3_recentCharacter : MethodName := ⟨RX3, "recentCharacter", "(I)I"⟩
abbrev cX3_hexadecimal : ByteArray := prog_5_method_12_code
def yX3_hexadecimal : MethodName := ⟨RX3, "hexadecimal", "(I)I"⟩
def RX4 : String := "TornStreams$Segments"
def TX4 : u_T := fun k => match k with
  | 0 => ("TornStreams$Segments", "count", "I", false)
  | 1 => ("TornStreams$Segments", "starts", "[I", true)
  | 2 => ("TornStreams$Segments", "lengths", "[I", true)
  | _ => ("TornStreams$Segments", "bytes", "[B", true)
def tyX4 : Nat → FieldType := fun k => match k with
  | 0 => .int
  | 1 => .array .int
  | 2 => .array .int
  | _ => .array .byte
abbrev wsX40 : List Cond := u_ws RX4 TX4 4
theorem nmX4 : ∀ a, a < 4 → ∀ b, b < 4 → a ≠ b → (TX4 a).2.1 ≠ (TX4 b).2.1 := by decide +kernel
theorem tyX4_ok : ∀ k, k < 4 → parseFieldDescriptor (TX4 k).2.2.1 = some (tyX4 k) := by decide +kernel
abbrev cX4_init : ByteArray := prog_6_method_1_code
def yX4_init : MethodName := ⟨RX4, "<init>", "(I)V"⟩
abbrev cX4_copyFrom : ByteArray := prog_6_method_2_code
def yX4_copyFrom : MethodName := ⟨RX4, "copyFrom", "(LTornStreams$Segments;)V"⟩
abbrev cX4_isFull : ByteArray := prog_6_method_3_code
def yX4_isFull : MethodName := ⟨RX4, "isFull", "()Z"⟩
abbrev cX4_add : ByteArray := prog_6_method_4_code
def yX4_add : MethodName := ⟨RX4, "add", "([BIII)V"⟩
abbrev cX4_put : ByteArray := prog_6_method_5_code
def yX4_put : MethodName := ⟨RX4, "put", "(I[BIII)V"⟩
abbrev cX4_covers : ByteArray := prog_6_method_6_code
def yX4_covers : MethodName := ⟨RX4, "covers", "(II)Z"⟩
abbrev cX4_byteFor : ByteArray := prog_6_method_7_code
def yX4_byteFor : MethodName := ⟨RX4, "byteFor", "(II)I"⟩
abbrev cX4_dropBefore : ByteArray := prog_6_method_8_code
def yX4_dropBefore : MethodName := ⟨RX4, "dropBefore", "(I)V"⟩
abbrev cX4_coveredFrom : ByteArray := prog_6_method_9_code
def yX4_coveredFrom : MethodName := ⟨RX4, "coveredFrom", "(I)I"⟩
abbrev cX4_isCoveredBefore : ByteArray := prog_6_method_10_code
def yX4_isCoveredBefore : MethodName := ⟨RX4, "isCoveredBefore", "(II)Z"⟩
abbrev cX4_smallestStart : ByteArray := prog_6_method_11_code
def yX4_smallestStart : MethodName := ⟨RX4, "smallestStart", "()I"⟩
def RX5 : String := "TornStreams$State"
def TX5 : u_T := fun k => match k with
  | 0 => ("TornStreams$State", "words", "LTornStreams$Words;", true)
  | 1 => ("TornStreams$State", "settings", "[I", true)
  | 2 => ("TornStreams$State", "finds", "LTornStreams$Finds;", true)
  | 3 => ("TornStreams$State", "flows", "[LTornStreams$Flow;", true)
  | 4 => ("TornStreams$State", "flowCount", "I", false)
  | _ => ("TornStreams$State", "forgottenCount", "I", false)
def tyX5 : Nat → FieldType := fun k => match k with
  | 0 => .object "TornStreams$Words"
  | 1 => .array .int
  | 2 => .object "TornStreams$Finds"
  | 3 => .array (.object "TornStreams$Flow")
  | 4 => .int
  | _ => .int
abbrev wsX50 : List Cond := u_ws RX5 TX5 6
theorem nmX5 : ∀ a, a < 6 → ∀ b, b < 6 → a ≠ b → (TX5 a).2.1 ≠ (TX5 b).2.1 := by decide +kernel
theorem tyX5_ok : ∀ k, k < 6 → parseFieldDescriptor (TX5 k).2.2.1 = some (tyX5 k) := by decide +kernel
abbrev cX5_init : ByteArray := prog_7_method_1_code
def yX5_init : MethodName := ⟨RX5, "<init>", "(LTornStreams$Automaton;LTornStreams$Finds;)V"⟩
abbrev cX5_copyFrom : ByteArray := prog_7_method_2_code
def yX5_copyFrom : MethodName := ⟨RX5, "copyFrom", "(LTornStreams$State;)V"⟩
abbrev cX5_placeOf : ByteArray := prog_7_method_3_code
def yX5_placeOf : MethodName := ⟨RX5, "placeOf", "(I)I"⟩
abbrev cX5_flowOfSegment : ByteArray := prog_7_method_4_code
def yX5_flowOfSegment : MethodName := ⟨RX5, "flowOfSegment", "(I)LTornStreams$Flow;"⟩
abbrev cX5_remove : ByteArray := prog_7_method_5_code
def yX5_remove : MethodName := ⟨RX5, "remove", "(I)V"⟩
abbrev cX5_movedToEnd : ByteArray := prog_7_method_6_code
def yX5_movedToEnd : MethodName := ⟨RX5, "movedToEnd", "(I)LTornStreams$Flow;"⟩
def RX6 : String := "TornStreams$Words"
def TX6 : u_T := fun k => match k with
  | 0 => ("TornStreams$Words", "lengths", "[I", true)
  | _ => ("TornStreams$Words", "letters", "[B", true)
def tyX6 : Nat → FieldType := fun k => match k with
  | 0 => .array .int
  | _ => .array .byte
abbrev wsX60 : List Cond := u_ws RX6 TX6 2
theorem nmX6 : ∀ a, a < 2 → ∀ b, b < 2 → a ≠ b → (TX6 a).2.1 ≠ (TX6 b).2.1 := by decide +kernel
theorem tyX6_ok : ∀ k, k < 2 → parseFieldDescriptor (TX6 k).2.2.1 = some (tyX6 k) := by decide +kernel
abbrev cX6_init : ByteArray := prog_8_method_1_code
def yX6_init : MethodName := ⟨RX6, "<init>", "()V"⟩
abbrev cX6_copyFrom : ByteArray := prog_8_method_2_code
def yX6_copyFrom : MethodName := ⟨RX6, "copyFrom", "(LTornStreams$Words;)V"⟩
abbrev cX6_isDefined : ByteArray := prog_8_method_3_code
def yX6_isDefined : MethodName := ⟨RX6, "isDefined", "(I)Z"⟩
abbrev cX6_put : ByteArray := prog_8_method_4_code
def yX6_put : MethodName := ⟨RX6, "put", "(I[BI)V"⟩
abbrev cX6_remove : ByteArray := prog_8_method_5_code
def yX6_remove : MethodName := ⟨RX6, "remove", "(I)V"⟩
abbrev cX6_letterAt : ByteArray := prog_8_method_6_code
def yX6_letterAt : MethodName := ⟨RX6, "letterAt", "(II)I"⟩
abbrev cX6_definedSet : ByteArray := prog_8_method_7_code
def yX6_definedSet : MethodName := ⟨RX6, "definedSet", "()I"⟩
def RX7 : String := "TornStreams"
def TX7 : u_T := fun k => match k with
  | 0 => ("TornStreams", "text", "[B", true)
  | 1 => ("TornStreams", "textLength", "I", false)
  | 2 => ("TornStreams", "automaton", "LTornStreams$Automaton;", true)
  | 3 => ("TornStreams", "now", "LTornStreams$State;", false)
  | 4 => ("TornStreams", "trial", "LTornStreams$State;", true)
  | 5 => ("TornStreams", "rehearsal", "LTornStreams$Flow;", true)
  | 6 => ("TornStreams", "past", "[LTornStreams$State;", true)
  | _ => ("TornStreams", "pastCount", "I", false)
def tyX7 : Nat → FieldType := fun k => match k with
  | 0 => .array .byte
  | 1 => .int
  | 2 => .object "TornStreams$Automaton"
  | 3 => .object "TornStreams$State"
  | 4 => .object "TornStreams$State"
  | 5 => .object "TornStreams$Flow"
  | 6 => .array (.object "TornStreams$State")
  | _ => .int
abbrev wsX70 : List Cond := u_ws RX7 TX7 8
theorem nmX7 : ∀ a, a < 8 → ∀ b, b < 8 → a ≠ b → (TX7 a).2.1 ≠ (TX7 b).2.1 := by decide +kernel
theorem tyX7_ok : ∀ k, k < 8 → parseFieldDescriptor (TX7 k).2.2.1 = some (tyX7 k) := by decide +kernel
abbrev cX7_init : ByteArray := prog_1_method_1_code
def yX7_init : MethodName := ⟨RX7, "<init>", "()V"⟩
abbrev cX7_type : ByteArray := prog_1_method_2_code
def yX7_type : MethodName := ⟨RX7, "type", "(I)I"⟩
abbrev cX7_clear : ByteArray := prog_1_method_3_code
def yX7_clear : MethodName := ⟨RX7, "clear", "()I"⟩
abbrev cX7_define : ByteArray := prog_1_method_4_code
def yX7_define : MethodName := ⟨RX7, "define", "(I)I"⟩
abbrev cX7_forget : ByteArray := prog_1_method_5_code
def yX7_forget : MethodName := ⟨RX7, "forget", "(I)I"⟩
abbrev cX7_letter : ByteArray := prog_1_method_6_code
def yX7_letter : MethodName := ⟨RX7, "letter", "(II)I"⟩
abbrev cX7_node : ByteArray := prog_1_method_7_code
def yX7_node : MethodName := ⟨RX7, "node", "(II)I"⟩
abbrev cX7_next : ByteArray := prog_1_method_8_code
def yX7_next : MethodName := ⟨RX7, "next", "(II)I"⟩
abbrev cX7_set : ByteArray := prog_1_method_9_code
def yX7_set : MethodName := ⟨RX7, "set", "(II)I"⟩
abbrev cX7_segment : ByteArray := prog_1_method_10_code
def yX7_segment : MethodName := ⟨RX7, "segment", "(II)I"⟩
abbrev cX7_finish : ByteArray := prog_1_method_11_code
def yX7_finish : MethodName := ⟨RX7, "finish", "(I)I"⟩
abbrev cX7_flow : ByteArray := prog_1_method_12_code
def yX7_flow : MethodName := ⟨RX7, "flow", "(I)I"⟩
abbrev cX7_property : ByteArray := prog_1_method_13_code
def yX7_property : MethodName := ⟨RX7, "property", "(II)I"⟩
abbrev cX7_byteAt : ByteArray := prog_1_method_14_code
def yX7_byteAt : MethodName := ⟨RX7, "byteAt", "(II)I"⟩
abbrev cX7_possible : ByteArray := prog_1_method_15_code
def yX7_possible : MethodName := ⟨RX7, "possible", "(I)J"⟩
abbrev cX7_read : ByteArray := prog_1_method_16_code
def yX7_read : MethodName := ⟨RX7, "read", "(II)I"⟩
abbrev cX7_find : ByteArray := prog_1_method_17_code
def yX7_find : MethodName := ⟨RX7, "find", "(II)I"⟩
abbrev cX7_told : ByteArray := prog_1_method_18_code
def yX7_told : MethodName := ⟨RX7, "told", "(I)I"⟩
abbrev cX7_ifSegment : ByteArray := prog_1_method_19_code
def yX7_ifSegment : MethodName := ⟨RX7, "ifSegment", "(II)I"⟩
abbrev cX7_replay : ByteArray := prog_1_method_20_code
def yX7_replay : MethodName := ⟨RX7, "replay", "(II)I"⟩
abbrev cX7_evasions : ByteArray := prog_1_method_21_code
def yX7_evasions : MethodName := ⟨RX7, "evasions", "(I)I"⟩
abbrev cX7_nearest : ByteArray := prog_1_method_22_code
def yX7_nearest : MethodName := ⟨RX7, "nearest", "(I)I"⟩
abbrev cX7_undo : ByteArray := prog_1_method_23_code
def yX7_undo : MethodName := ⟨RX7, "undo", "()I"⟩
abbrev cX7_digest : ByteArray := prog_1_method_24_code
def yX7_digest : MethodName := ⟨RX7, "digest", "()J"⟩
abbrev cX7_mixedWithFlow : ByteArray := prog_1_method_25_code
def yX7_mixedWithFlow : MethodName := ⟨RX7, "mixedWithFlow", "(JLTornStreams$Flow;)J"⟩
abbrev cX7_mixed : ByteArray := prog_1_method_26_code
def yX7_mixed : MethodName := ⟨RX7, "mixed", "(JJ)J"⟩
abbrev cX7_isWord : ByteArray := prog_1_method_27_code
def yX7_isWord : MethodName := ⟨RX7, "isWord", "(I)Z"⟩
abbrev cX7_isKey : ByteArray := prog_1_method_28_code
def yX7_isKey : MethodName := ⟨RX7, "isKey", "(I)Z"⟩
abbrev cX7_firstWrongByte : ByteArray := prog_1_method_29_code
def yX7_firstWrongByte : MethodName := ⟨RX7, "firstWrongByte", "()I"⟩
abbrev cX7_isLetter : ByteArray := prog_1_method_30_code
def yX7_isLetter : MethodName := ⟨RX7, "isLetter", "(I)Z"⟩
abbrev cX7_wordsChanged : ByteArray := prog_1_method_31_code
def yX7_wordsChanged : MethodName := ⟨RX7, "wordsChanged", "()V"⟩
abbrev cX7_segmentError : ByteArray := prog_1_method_32_code
def yX7_segmentError : MethodName := ⟨RX7, "segmentError", "(II)I"⟩
abbrev cX7_handled : ByteArray := prog_1_method_33_code
def yX7_handled : MethodName := ⟨RX7, "handled", "(LTornStreams$State;II)I"⟩
abbrev cX7_wordsBy : ByteArray := prog_1_method_34_code
def yX7_wordsBy : MethodName := ⟨RX7, "wordsBy", "(LTornStreams$Flow;I)I"⟩
abbrev cX7_record : ByteArray := prog_1_method_35_code
def yX7_record : MethodName := ⟨RX7, "record", "()V"⟩
abbrev cX7_dropOldest : ByteArray := prog_1_method_36_code
def yX7_dropOldest : MethodName := ⟨RX7, "dropOldest", "()V"⟩
def RX8 : String := "TornStreamsModel"
def TX8 : u_T := fun k => match k with
  | 0 => ("TornStreamsModel", "page", "[I", true)
  | 1 => ("TornStreamsModel", "remembered", "I", false)
  | 2 => ("TornStreamsModel", "text", "[I", true)
  | 3 => ("TornStreamsModel", "typed", "I", false)
  | 4 => ("TornStreamsModel", "nodes", "I", false)
  | 5 => ("TornStreamsModel", "lengths", "[I", true)
  | 6 => ("TornStreamsModel", "letters", "[I", true)
  | 7 => ("TornStreamsModel", "parents", "[I", true)
  | 8 => ("TornStreamsModel", "fails", "[I", true)
  | 9 => ("TornStreamsModel", "sets", "[I", true)
  | 10 => ("TornStreamsModel", "nexts", "[I", true)
  | 11 => ("TornStreamsModel", "row", "[I", true)
  | 12 => ("TornStreamsModel", "flow", "I", false)
  | 13 => ("TornStreamsModel", "made", "I", false)
  | 14 => ("TornStreamsModel", "foundWords", "I", false)
  | 15 => ("TornStreamsModel", "far", "[I", true)
  | _ => ("TornStreamsModel", "line", "[I", true)
def tyX8 : Nat → FieldType := fun k => match k with
  | 0 => .array .int
  | 1 => .int
  | 2 => .array .int
  | 3 => .int
  | 4 => .int
  | 5 => .array .int
  | 6 => .array .int
  | 7 => .array .int
  | 8 => .array .int
  | 9 => .array .int
  | 10 => .array .int
  | 11 => .array .int
  | 12 => .int
  | 13 => .int
  | 14 => .int
  | 15 => .array .int
  | _ => .array .int
abbrev wsX80 : List Cond := u_ws RX8 TX8 17
theorem nmX8 : ∀ a, a < 17 → ∀ b, b < 17 → a ≠ b → (TX8 a).2.1 ≠ (TX8 b).2.1 := by decide +kernel
theorem tyX8_ok : ∀ k, k < 17 → parseFieldDescriptor (TX8 k).2.2.1 = some (tyX8 k) := by decide +kernel
abbrev cX8_init : ByteArray := prog_10_method_1_code
def yX8_init : MethodName := ⟨RX8, "<init>", "()V"⟩
abbrev cX8_in : ByteArray := prog_10_method_3_code
def yX8_in : MethodName := ⟨RX8, "in", "(III)Z"⟩
abbrev cX8_copies : ByteArray := prog_10_method_4_code
def yX8_copies : MethodName := ⟨RX8, "copies", "(II)V"⟩
abbrev cX8_begins : ByteArray := prog_10_method_5_code
def yX8_begins : MethodName := ⟨RX8, "begins", "()V"⟩
abbrev cX8_wordLength : ByteArray := prog_10_method_6_code
def yX8_wordLength : MethodName := ⟨RX8, "wordLength", "(I)I"⟩
abbrev cX8_letterOf : ByteArray := prog_10_method_7_code
def yX8_letterOf : MethodName := ⟨RX8, "letterOf", "(II)I"⟩
abbrev cX8_order : ByteArray := prog_10_method_8_code
def yX8_order : MethodName := ⟨RX8, "order", "(II)I"⟩
abbrev cX8_nodeOf : ByteArray := prog_10_method_9_code
def yX8_nodeOf : MethodName := ⟨RX8, "nodeOf", "(II)I"⟩
abbrev cX8_inserts : ByteArray := prog_10_method_10_code
def yX8_inserts : MethodName := ⟨RX8, "inserts", "(I)V"⟩
abbrev cX8_longest : ByteArray := prog_10_method_11_code
def yX8_longest : MethodName := ⟨RX8, "longest", "(II)I"⟩
abbrev cX8_takes : ByteArray := prog_10_method_12_code
def yX8_takes : MethodName := ⟨RX8, "takes", "(I)V"⟩
abbrev cX8_endsWith : ByteArray := prog_10_method_13_code
def yX8_endsWith : MethodName := ⟨RX8, "endsWith", "(II)Z"⟩
abbrev cX8_lays : ByteArray := prog_10_method_14_code
def yX8_lays : MethodName := ⟨RX8, "lays", "()V"⟩
abbrev cX8_type : ByteArray := prog_10_method_15_code
def yX8_type : MethodName := ⟨RX8, "type", "(I)I"⟩
abbrev cX8_clear : ByteArray := prog_10_method_16_code
def yX8_clear : MethodName := ⟨RX8, "clear", "()I"⟩
abbrev cX8_isWord : ByteArray := prog_10_method_17_code
def yX8_isWord : MethodName := ⟨RX8, "isWord", "(I)Z"⟩
abbrev cX8_faultOf : ByteArray := prog_10_method_18_code
def yX8_faultOf : MethodName := ⟨RX8, "faultOf", "()I"⟩
abbrev cX8_slot : ByteArray := prog_10_method_19_code
def yX8_slot : MethodName := ⟨RX8, "slot", "(I)I"⟩
abbrev cX8_others : ByteArray := prog_10_method_20_code
def yX8_others : MethodName := ⟨RX8, "others", "()I"⟩
abbrev cX8_define : ByteArray := prog_10_method_21_code
def yX8_define : MethodName := ⟨RX8, "define", "(I)I"⟩
abbrev cX8_forget : ByteArray := prog_10_method_22_code
def yX8_forget : MethodName := ⟨RX8, "forget", "(I)I"⟩
abbrev cX8_letter : ByteArray := prog_10_method_23_code
def yX8_letter : MethodName := ⟨RX8, "letter", "(II)I"⟩
abbrev cX8_node : ByteArray := prog_10_method_24_code
def yX8_node : MethodName := ⟨RX8, "node", "(II)I"⟩
abbrev cX8_next : ByteArray := prog_10_method_25_code
def yX8_next : MethodName := ⟨RX8, "next", "(II)I"⟩
abbrev cX8_set : ByteArray := prog_10_method_26_code
def yX8_set : MethodName := ⟨RX8, "set", "(II)I"⟩
abbrev cX8_of : ByteArray := prog_10_method_27_code
def yX8_of : MethodName := ⟨RX8, "of", "(I)I"⟩
abbrev cX8_put : ByteArray := prog_10_method_28_code
def yX8_put : MethodName := ⟨RX8, "put", "(II)V"⟩
abbrev cX8_adds : ByteArray := prog_10_method_29_code
def yX8_adds : MethodName := ⟨RX8, "adds", "(II)V"⟩
abbrev cX8_isPossible : ByteArray := prog_10_method_30_code
def yX8_isPossible : MethodName := ⟨RX8, "isPossible", "(I)Z"⟩
abbrev cX8_laysPossible : ByteArray := prog_10_method_31_code
def yX8_laysPossible : MethodName := ⟨RX8, "laysPossible", "(II)V"⟩
abbrev cX8_lowOf : ByteArray := prog_10_method_32_code
def yX8_lowOf : MethodName := ⟨RX8, "lowOf", "(I)I"⟩
abbrev cX8_highOf : ByteArray := prog_10_method_33_code
def yX8_highOf : MethodName := ⟨RX8, "highOf", "(I)I"⟩
abbrev cX8_records : ByteArray := prog_10_method_34_code
def yX8_records : MethodName := ⟨RX8, "records", "(III)V"⟩
abbrev cX8_steps : ByteArray := prog_10_method_35_code
def yX8_steps : MethodName := ⟨RX8, "steps", "(I)V"⟩
abbrev cX8_reads : ByteArray := prog_10_method_36_code
def yX8_reads : MethodName := ⟨RX8, "reads", "(III)V"⟩
abbrev cX8_has : ByteArray := prog_10_method_37_code
def yX8_has : MethodName := ⟨RX8, "has", "(I)Z"⟩
abbrev cX8_character : ByteArray := prog_10_method_38_code
def yX8_character : MethodName := ⟨RX8, "character", "(III)V"⟩
abbrev cX8_hexOf : ByteArray := prog_10_method_39_code
def yX8_hexOf : MethodName := ⟨RX8, "hexOf", "(I)I"⟩
abbrev cX8_lets : ByteArray := prog_10_method_40_code
def yX8_lets : MethodName := ⟨RX8, "lets", "()V"⟩
abbrev cX8_delivers : ByteArray := prog_10_method_41_code
def yX8_delivers : MethodName := ⟨RX8, "delivers", "(II)V"⟩
abbrev cX8_pieceAt : ByteArray := prog_10_method_42_code
def yX8_pieceAt : MethodName := ⟨RX8, "pieceAt", "(I)I"⟩
abbrev cX8_covers : ByteArray := prog_10_method_43_code
def yX8_covers : MethodName := ⟨RX8, "covers", "(II)Z"⟩
abbrev cX8_byteOf : ByteArray := prog_10_method_44_code
def yX8_byteOf : MethodName := ⟨RX8, "byteOf", "(II)I"⟩
abbrev cX8_isBetter : ByteArray := prog_10_method_45_code
def yX8_isBetter : MethodName := ⟨RX8, "isBetter", "(II)Z"⟩
abbrev cX8_chosen : ByteArray := prog_10_method_46_code
def yX8_chosen : MethodName := ⟨RX8, "chosen", "(I)I"⟩
abbrev cX8_isConflict : ByteArray := prog_10_method_47_code
def yX8_isConflict : MethodName := ⟨RX8, "isConflict", "(I)Z"⟩
abbrev cX8_drops : ByteArray := prog_10_method_48_code
def yX8_drops : MethodName := ⟨RX8, "drops", "()V"⟩
abbrev cX8_deliversAll : ByteArray := prog_10_method_49_code
def yX8_deliversAll : MethodName := ⟨RX8, "deliversAll", "()V"⟩
abbrev cX8_covered : ByteArray := prog_10_method_50_code
def yX8_covered : MethodName := ⟨RX8, "covered", "(Z)I"⟩
abbrev cX8_gap : ByteArray := prog_10_method_51_code
def yX8_gap : MethodName := ⟨RX8, "gap", "(I)V"⟩
abbrev cX8_handles : ByteArray := prog_10_method_52_code
def yX8_handles : MethodName := ⟨RX8, "handles", "(III)V"⟩
abbrev cX8_starts : ByteArray := prog_10_method_53_code
def yX8_starts : MethodName := ⟨RX8, "starts", "(IIII)V"⟩
abbrev cX8_placeOf : ByteArray := prog_10_method_54_code
def yX8_placeOf : MethodName := ⟨RX8, "placeOf", "(I)I"⟩
abbrev cX8_freeSlot : ByteArray := prog_10_method_55_code
def yX8_freeSlot : MethodName := ⟨RX8, "freeSlot", "()I"⟩
abbrev cX8_leaves : ByteArray := prog_10_method_56_code
def yX8_leaves : MethodName := ⟨RX8, "leaves", "(I)V"⟩
abbrev cX8_segments : ByteArray := prog_10_method_57_code
def yX8_segments : MethodName := ⟨RX8, "segments", "(II)V"⟩
abbrev cX8_handlesText : ByteArray := prog_10_method_58_code
def yX8_handlesText : MethodName := ⟨RX8, "handlesText", "(I)V"⟩
abbrev cX8_wrong : ByteArray := prog_10_method_59_code
def yX8_wrong : MethodName := ⟨RX8, "wrong", "(II)I"⟩
abbrev cX8_segment : ByteArray := prog_10_method_60_code
def yX8_segment : MethodName := ⟨RX8, "segment", "(II)I"⟩
abbrev cX8_asked : ByteArray := prog_10_method_61_code
def yX8_asked : MethodName := ⟨RX8, "asked", "(I)I"⟩
abbrev cX8_finish : ByteArray := prog_10_method_62_code
def yX8_finish : MethodName := ⟨RX8, "finish", "(I)I"⟩
abbrev cX8_flow : ByteArray := prog_10_method_63_code
def yX8_flow : MethodName := ⟨RX8, "flow", "(I)I"⟩
abbrev cX8_possibleMany : ByteArray := prog_10_method_64_code
def yX8_possibleMany : MethodName := ⟨RX8, "possibleMany", "()I"⟩
abbrev cX8_propertyNow : ByteArray := prog_10_method_65_code
def yX8_propertyNow : MethodName := ⟨RX8, "propertyNow", "(I)I"⟩
abbrev cX8_property : ByteArray := prog_10_method_66_code
def yX8_property : MethodName := ⟨RX8, "property", "(II)I"⟩
abbrev cX8_byteNow : ByteArray := prog_10_method_67_code
def yX8_byteNow : MethodName := ⟨RX8, "byteNow", "(I)I"⟩
abbrev cX8_byteAt : ByteArray := prog_10_method_68_code
def yX8_byteAt : MethodName := ⟨RX8, "byteAt", "(II)I"⟩
abbrev cX8_possibleNow : ByteArray := prog_10_method_69_code
def yX8_possibleNow : MethodName := ⟨RX8, "possibleNow", "()J"⟩
abbrev cX8_possible : ByteArray := prog_10_method_70_code
def yX8_possible : MethodName := ⟨RX8, "possible", "(I)J"⟩
abbrev cX8_readNow : ByteArray := prog_10_method_71_code
def yX8_readNow : MethodName := ⟨RX8, "readNow", "(I)I"⟩
abbrev cX8_read : ByteArray := prog_10_method_72_code
def yX8_read : MethodName := ⟨RX8, "read", "(II)I"⟩
abbrev cX8_find : ByteArray := prog_10_method_73_code
def yX8_find : MethodName := ⟨RX8, "find", "(II)I"⟩
abbrev cX8_definedSet : ByteArray := prog_10_method_74_code
def yX8_definedSet : MethodName := ⟨RX8, "definedSet", "()I"⟩
abbrev cX8_told : ByteArray := prog_10_method_75_code
def yX8_told : MethodName := ⟨RX8, "told", "(I)I"⟩
abbrev cX8_ifSegment : ByteArray := prog_10_method_76_code
def yX8_ifSegment : MethodName := ⟨RX8, "ifSegment", "(II)I"⟩
abbrev cX8_replays : ByteArray := prog_10_method_77_code
def yX8_replays : MethodName := ⟨RX8, "replays", "(II)I"⟩
abbrev cX8_replay : ByteArray := prog_10_method_78_code
def yX8_replay : MethodName := ⟨RX8, "replay", "(II)I"⟩
abbrev cX8_evasions : ByteArray := prog_10_method_79_code
def yX8_evasions : MethodName := ⟨RX8, "evasions", "(I)I"⟩
abbrev cX8_nearest : ByteArray := prog_10_method_80_code
def yX8_nearest : MethodName := ⟨RX8, "nearest", "(I)I"⟩
abbrev cX8_undo : ByteArray := prog_10_method_81_code
def yX8_undo : MethodName := ⟨RX8, "undo", "()I"⟩
abbrev cX8_mixedFlow : ByteArray := prog_10_method_82_code
def yX8_mixedFlow : MethodName := ⟨RX8, "mixedFlow", "(JI)J"⟩
abbrev cX8_digest : ByteArray := prog_10_method_83_code
def yX8_digest : MethodName := ⟨RX8, "digest", "()J"⟩
def RJ6 : String := "java/lang/Integer"
def TJ6 : u_T := fun k => match k with
  | _ => ("", "", "", false)
def tyJ6 : Nat → FieldType := fun k => match k with
  | _ => .int
abbrev wsJ60 : List Cond := u_ws RJ6 TJ6 0
theorem nmJ6 : ∀ a, a < 0 → ∀ b, b < 0 → a ≠ b → (TJ6 a).2.1 ≠ (TJ6 b).2.1 := by decide +kernel
theorem tyJ6_ok : ∀ k, k < 0 → parseFieldDescriptor (TJ6 k).2.2.1 = some (tyJ6 k) := by decide +kernel
abbrev cJ6_bitCount_0f7a4 : ByteArray := prog_11_method_49_code
def yJ6_bitCount_0f7a4 : MethodName := ⟨RJ6, "bitCount", "(I)I"⟩
def RJ13 : String := "java/lang/Long"
def TJ13 : u_T := fun k => match k with
  | _ => ("", "", "", false)
def tyJ13 : Nat → FieldType := fun k => match k with
  | _ => .int
abbrev wsJ130 : List Cond := u_ws RJ13 TJ13 0
theorem nmJ13 : ∀ a, a < 0 → ∀ b, b < 0 → a ≠ b → (TJ13 a).2.1 ≠ (TJ13 b).2.1 := by decide +kernel
theorem tyJ13_ok : ∀ k, k < 0 → parseFieldDescriptor (TJ13 k).2.2.1 = some (tyJ13 k) := by decide +kernel
abbrev cJ13_bitCount_95d88 : ByteArray := prog_12_method_50_code
def yJ13_bitCount_95d88 : MethodName := ⟨RJ13, "bitCount", "(J)I"⟩
def RJ9 : String := "java/lang/Math"
def TJ9 : u_T := fun k => match k with
  | _ => ("", "", "", false)
def tyJ9 : Nat → FieldType := fun k => match k with
  | _ => .int
abbrev wsJ90 : List Cond := u_ws RJ9 TJ9 0
theorem nmJ9 : ∀ a, a < 0 → ∀ b, b < 0 → a ≠ b → (TJ9 a).2.1 ≠ (TJ9 b).2.1 := by decide +kernel
theorem tyJ9_ok : ∀ k, k < 0 → parseFieldDescriptor (TJ9 k).2.2.1 = some (tyJ9 k) := by decide +kernel
abbrev cJ9_max_7cf53 : ByteArray := prog_13_method_65_code
def yJ9_max_7cf53 : MethodName := ⟨RJ9, "max", "(II)I"⟩
abbrev cJ9_min_7cf53 : ByteArray := prog_13_method_69_code
def yJ9_min_7cf53 : MethodName := ⟨RJ9, "min", "(II)I"⟩
def RJ10 : String := "java/lang/System"
def TJ10 : u_T := fun k => match k with
  | _ => ("", "", "", false)
def tyJ10 : Nat → FieldType := fun k => match k with
  | _ => .int
abbrev wsJ100 : List Cond := u_ws RJ10 TJ10 0
theorem nmJ10 : ∀ a, a < 0 → ∀ b, b < 0 → a ≠ b → (TJ10 a).2.1 ≠ (TJ10 b).2.1 := by decide +kernel
theorem tyJ10_ok : ∀ k, k < 0 → parseFieldDescriptor (TJ10 k).2.2.1 = some (tyJ10 k) := by decide +kernel
def RJ7 : String := "java/util/Arrays"
def TJ7 : u_T := fun k => match k with
  | _ => ("", "", "", false)
def tyJ7 : Nat → FieldType := fun k => match k with
  | _ => .int
abbrev wsJ70 : List Cond := u_ws RJ7 TJ7 0
theorem nmJ7 : ∀ a, a < 0 → ∀ b, b < 0 → a ≠ b → (TJ7 a).2.1 ≠ (TJ7 b).2.1 := by decide +kernel
theorem tyJ7_ok : ∀ k, k < 0 → parseFieldDescriptor (TJ7 k).2.2.1 = some (tyJ7 k) := by decide +kernel
abbrev cJ7_fill_53178 : ByteArray := prog_15_method_103_code
def yJ7_fill_53178 : MethodName := ⟨RJ7, "fill", "([II)V"⟩
def RL : String := "TornStreamsLaw"
abbrev cL_law : ByteArray := code
def yL_law : MethodName := ⟨RL, "law", "([I)Z"⟩
abbrev vwCl : List vw_C := [(RX0, TX0, 9), (RX1, TX1, 6), (RX2, TX2, 12), (RX3, TX3, 15), (RX4, TX4, 4), (RX5, TX5, 6), (RX6, TX6, 2), (RX7, TX7, 8), (RX8, TX8, 17)]
end
section
/-! THE PLAIN MACHINE: a store, and what each instruction asks of it (a predicate transformer). A cell: an array (its type, length, contents) or an object (its class' number, its fields); an array marked .short is one of ints that is only read. -/
abbrev jx_E : Type := (FieldType × vp_A) ⊕ (Nat × List Value)
/-- where the next cell comes; the static references; the cells -/
abbrev jx_W : Type := Nat × (Nat → Nat) × (Nat → Option jx_E)
abbrev jx_L : Type := List (Nat × Value)
abbrev jx_Q : Type := jx_W → Option Value → Prop
abbrev jx_K : Type := jx_L → List Value → Nat → Nat → jx_W → Prop
abbrev jx_C : Type := Nat → List Value → jx_W → jx_Q → Prop
abbrev jx_J : Type := Nat → jx_K
abbrev jx_T : Type := jx_C → jx_J → jx_Q → jx_K → jx_K
/-- an instruction: its length, itself, what it is linked to -/
abbrev jx_I : Type := Nat × Instr × List Nat
def jx_up (w : jx_W) (a : Nat) (e : jx_E) : jx_W := (w.1, w.2.1, fun b => if b = a then some e else w.2.2 b)
def jx_al (w : jx_W) (e : jx_E) : jx_W := (w.1 + 1, w.2.1, fun b => if b = w.1 then some e else w.2.2 b)
def jx_ob (w : jx_W) (a ci : Nat) (fs : List Value) : Prop := w.2.2 a = some (.inr (ci, fs))
def jx_ia (w : jx_W) (a n : Nat) (f : Nat → Int32) : Prop := w.2.2 a = some (.inl (.int, n, .inl f))
def jx_ba (w : jx_W) (a n : Nat) (f : Nat → Int32) : Prop := w.2.2 a = some (.inl (.byte, n, .inl f))
def jx_ro (w : jx_W) (a n : Nat) (f : Nat → Int32) : Prop := w.2.2 a = some (.inl (.short, n, .inl f))
def jx_ra (w : jx_W) (a : Nat) (C : String) (n : Nat) (f : Nat → Option Nat) : Prop := w.2.2 a = some (.inl (.object C, n, .inr (.inr (.inr (.inr f)))))
def jx_uob (w : jx_W) (a ci : Nat) (fs : List Value) : jx_W := jx_up w a (.inr (ci, fs))
def jx_uia (w : jx_W) (a n : Nat) (f : Nat → Int32) : jx_W := jx_up w a (.inl (.int, n, .inl f))
def jx_uba (w : jx_W) (a n : Nat) (f : Nat → Int32) : jx_W := jx_up w a (.inl (.byte, n, .inl f))
def jx_ura (w : jx_W) (a : Nat) (C : String) (n : Nat) (f : Nat → Option Nat) : jx_W := jx_up w a (.inl (.object C, n, .inr (.inr (.inr (.inr f)))))
def jx_nm (ci : Nat) : String := match vwCl[ci]? with
  | some r => r.1
  | none => ""
def jx_get : jx_L → Nat → Option Value
  | [], _ => none
  | (j, v) :: t, i => match Nat.beq j i with
    | true => some v
    | false => jx_get t i
def jx_s1 (lv : jx_L) (i : Nat) (v : Value) : jx_L := (i, v) :: lv.filter (fun q => !(q.1 == i) && !(q.1 + 1 == i && q.2.category == 2))
def jx_s2 (lv : jx_L) (i : Nat) (v : Value) : jx_L := (i, v) :: lv.filter (fun q => !(q.1 == i) && (!(q.1 == i + 1) && !(q.1 + 1 == i && q.2.category == 2)))
/-- the locals that a block wants, in its order -/
def jx_pick : List Nat → jx_L → jx_L
  | [], _ => []
  | i :: t, lv => match jx_get lv i with
    | some v => (i, v) :: jx_pick t lv
    | none => jx_pick t lv
def jx_lit : List Nat → Int32
  | [0, n] => Int32.ofNat n
  | [1, n] => -(Int32.ofNat n)
  | _ => 0
def jt_bad : jx_T := fun _ _ _ _ _ _ _ _ _ => False
def jt_c (v : Value) : jx_T := fun _ _ _ k lv st bc bs w => k lv (v :: st) bc bs w
def jt_ldi (i : Nat) : jx_T := fun _ _ _ k lv st bc bs w => match jx_get lv i with
  | some (.int x) => k lv (.int x :: st) bc bs w
  | _ => False
def jt_ldl (i : Nat) : jx_T := fun _ _ _ k lv st bc bs w => match jx_get lv i with
  | some (.long x) => k lv (.long x :: st) bc bs w
  | _ => False
def jt_lda (i : Nat) : jx_T := fun _ _ _ k lv st bc bs w => match jx_get lv i with
  | some (.ref x) => k lv (.ref x :: st) bc bs w
  | _ => False
def jt_sti (i : Nat) : jx_T := fun _ _ _ k lv st bc bs w => match st with
  | .int x :: r => k (jx_s1 lv i (.int x)) r bc bs w
  | _ => False
def jt_stl (i : Nat) : jx_T := fun _ _ _ k lv st bc bs w => match st with
  | .long x :: r => k (jx_s2 lv i (.long x)) r bc bs w
  | _ => False
def jt_sta (i : Nat) : jx_T := fun _ _ _ k lv st bc bs w => match st with
  | .ref x :: r => k (jx_s1 lv i (.ref x)) r bc bs w
  | _ => False
def jt_inc (i : Nat) (v : Int32) : jx_T := fun _ _ _ k lv st bc bs w => match jx_get lv i with
  | some (.int x) => k (jx_s1 lv i (.int (x + v))) st bc bs w
  | _ => False
def jt_ii (f : Int32 → Int32 → Int32) : jx_T := fun _ _ _ k lv st bc bs w => match st with
  | .int y :: .int x :: r => k lv (.int (f x y) :: r) bc bs w
  | _ => False
def jt_irem : jx_T := fun _ _ _ k lv st bc bs w => match st with
  | .int y :: .int x :: r => ¬ y = 0 ∧ k lv (.int (x - x / y * y) :: r) bc bs w
  | _ => False
def jt_ll (f : Int64 → Int64 → Int64) : jx_T := fun _ _ _ k lv st bc bs w => match st with
  | .long y :: .long x :: r => k lv (.long (f x y) :: r) bc bs w
  | _ => False
def jt_li (f : Int64 → Int32 → Int64) : jx_T := fun _ _ _ k lv st bc bs w => match st with
  | .int y :: .long x :: r => k lv (.long (f x y) :: r) bc bs w
  | _ => False
def jt_lcmp : jx_T := fun _ _ _ k lv st bc bs w => match st with
  | .long y :: .long x :: r => k lv (.int (lg_cmp x y) :: r) bc bs w
  | _ => False
def jt_i2l : jx_T := fun _ _ _ k lv st bc bs w => match st with
  | .int x :: r => k lv (.long x.toInt64 :: r) bc bs w
  | _ => False
def jt_l2i : jx_T := fun _ _ _ k lv st bc bs w => match st with
  | .long x :: r => k lv (.int x.toInt32 :: r) bc bs w
  | _ => False
def jt_i2b : jx_T := fun _ _ _ k lv st bc bs w => match st with
  | .int x :: r => k lv (.int x.toInt8.toInt32 :: r) bc bs w
  | _ => False
def jt_dup : jx_T := fun _ _ _ k lv st bc bs w => match st with
  | .int x :: r => k lv (.int x :: .int x :: r) bc bs w
  | .ref x :: r => k lv (.ref x :: .ref x :: r) bc bs w
  | _ => False
def jt_dup2 : jx_T := fun _ _ _ k lv st bc bs w => match st with
  | .int y :: .ref x :: r => k lv (.int y :: .ref x :: .int y :: .ref x :: r) bc bs w
  | _ => False
def jt_pop : jx_T := fun _ _ _ k lv st bc bs w => match st with
  | .int _ :: r => k lv r bc bs w
  | .ref _ :: r => k lv r bc bs w
  | _ => False
def jt_if (f g : Int32 → Prop) (b : Nat) : jx_T := fun _ j _ k lv st bc bs w => match st with
  | .int x :: r => (f x → j b lv r bc bs w) ∧ (g x → k lv r bc bs w)
  | _ => False
def jt_cmp (f g : Int32 → Int32 → Prop) (b : Nat) : jx_T := fun _ j _ k lv st bc bs w => match st with
  | .int y :: .int x :: r => (f x y → j b lv r bc bs w) ∧ (g x y → k lv r bc bs w)
  | _ => False
def jt_go (b : Nat) : jx_T := fun _ j _ _ lv st bc bs w => j b lv st bc bs w
/-- a table of jumps from lo on, then the default's -/
def jx_sw (x : Int32) (lo : Int) (d : Nat) (jj : Nat → Prop) : List Nat → Int → Prop
  | [], n => (x.toInt < lo ∨ n ≤ x.toInt) → jj d
  | b :: t, n => (x.toInt = n → jj b) ∧ jx_sw x lo d jj t (n + 1)
def jt_sw (lo : Int) (d : Nat) (bs0 : List Nat) : jx_T := fun _ j _ _ lv st bc bs w => match st with
  | .int x :: r => jx_sw x lo d (fun b => j b lv r bc bs w) bs0 lo
  | _ => False
def jt_gfi (ci i : Nat) : jx_T := fun _ _ _ k lv st bc bs w => match st with
  | .ref a :: r => ∃ (fs : List Value) (x : Int32), jx_ob w a ci fs ∧ fs[i]? = some (.int x) ∧ k lv (.int x :: r) bc bs w
  | _ => False
def jt_gfl (ci i : Nat) : jx_T := fun _ _ _ k lv st bc bs w => match st with
  | .ref a :: r => ∃ (fs : List Value) (x : Int64), jx_ob w a ci fs ∧ fs[i]? = some (.long x) ∧ k lv (.long x :: r) bc bs w
  | _ => False
def jt_gfr (ci i : Nat) : jx_T := fun _ _ _ k lv st bc bs w => match st with
  | .ref a :: r => ∃ (fs : List Value) (x : Nat), jx_ob w a ci fs ∧ fs[i]? = some (.ref x) ∧ k lv (.ref x :: r) bc bs w
  | _ => False
def jt_pfi (ci i : Nat) : jx_T := fun _ _ _ k lv st bc bs w => match st with
  | .int x :: .ref a :: r => ∃ fs : List Value, jx_ob w a ci fs ∧ i < fs.length ∧ k lv r bc bs (jx_uob w a ci (fs.set i (.int x)))
  | _ => False
def jt_pfz (ci i : Nat) : jx_T := fun _ _ _ k lv st bc bs w => match st with
  | .int x :: .ref a :: r => ∃ fs : List Value, jx_ob w a ci fs ∧ i < fs.length ∧ (x = 0 ∨ x = 1) ∧ k lv r bc bs (jx_uob w a ci (fs.set i (.int x)))
  | _ => False
def jt_pfl (ci i : Nat) : jx_T := fun _ _ _ k lv st bc bs w => match st with
  | .long x :: .ref a :: r => ∃ fs : List Value, jx_ob w a ci fs ∧ i < fs.length ∧ k lv r bc bs (jx_uob w a ci (fs.set i (.long x)))
  | _ => False
def jt_pfr (ci i : Nat) : jx_T := fun _ _ _ k lv st bc bs w => match st with
  | .ref x :: .ref a :: r => ∃ fs : List Value, jx_ob w a ci fs ∧ i < fs.length ∧ k lv r bc bs (jx_uob w a ci (fs.set i (.ref x)))
  | _ => False
def jt_gs (i : Nat) : jx_T := fun _ _ _ k lv st bc bs w => k lv (.ref (w.2.1 i) :: st) bc bs w
def jt_iald : jx_T := fun _ _ _ k lv st bc bs w => match st with
  | .int i :: .ref a :: r => ∃ (n : Nat) (f : Nat → Int32), jx_ia w a n f ∧ vp_in i n ∧ k lv (.int (f i.toNatClampNeg) :: r) bc bs w
  | _ => False
def jt_rald : jx_T := fun _ _ _ k lv st bc bs w => match st with
  | .int i :: .ref a :: r => ∃ (n : Nat) (f : Nat → Int32), jx_ro w a n f ∧ vp_in i n ∧ k lv (.int (f i.toNatClampNeg) :: r) bc bs w
  | _ => False
def jt_bald : jx_T := fun _ _ _ k lv st bc bs w => match st with
  | .int i :: .ref a :: r => ∃ (n : Nat) (f : Nat → Int32), jx_ba w a n f ∧ vp_in i n ∧ k lv (.int (f i.toNatClampNeg) :: r) bc bs w
  | _ => False
def jt_aald (ci : Nat) : jx_T := fun _ _ _ k lv st bc bs w => match st with
  | .int i :: .ref a :: r => ∃ (n : Nat) (f : Nat → Option Nat) (b : Nat), jx_ra w a (jx_nm ci) n f ∧ vp_in i n ∧ f i.toNatClampNeg = some b ∧ k lv (.ref b :: r) bc bs w
  | _ => False
def jt_iast : jx_T := fun _ _ _ k lv st bc bs w => match st with
  | .int x :: .int i :: .ref a :: r => ∃ (n : Nat) (f : Nat → Int32), jx_ia w a n f ∧ vp_in i n ∧ k lv r bc bs (jx_uia w a n (upd f i.toNatClampNeg x))
  | _ => False
def jt_bast : jx_T := fun _ _ _ k lv st bc bs w => match st with
  | .int x :: .int i :: .ref a :: r => ∃ (n : Nat) (f : Nat → Int32), jx_ba w a n f ∧ vp_in i n ∧ k lv r bc bs (jx_uba w a n (upd f i.toNatClampNeg (vp_nar .byte x)))
  | _ => False
def jt_aast (ci : Nat) : jx_T := fun _ _ _ k lv st bc bs w => match st with
  | .ref v :: .int i :: .ref a :: r => ∃ (n : Nat) (f : Nat → Option Nat) (vs : List Value), jx_ra w a (jx_nm ci) n f ∧ jx_ob w v ci vs ∧ vp_in i n ∧ k lv r bc bs (jx_ura w a (jx_nm ci) n (va_up f i.toNatClampNeg (some v)))
  | _ => False
def jt_ilen : jx_T := fun _ _ _ k lv st bc bs w => match st with
  | .ref a :: r => ∃ (n : Nat) (f : Nat → Int32), jx_ia w a n f ∧ k lv (.int (Int32.ofNat n) :: r) bc bs w
  | _ => False
def jt_rlen : jx_T := fun _ _ _ k lv st bc bs w => match st with
  | .ref a :: r => ∃ (n : Nat) (f : Nat → Int32), jx_ro w a n f ∧ k lv (.int (Int32.ofNat n) :: r) bc bs w
  | _ => False
def jt_blen : jx_T := fun _ _ _ k lv st bc bs w => match st with
  | .ref a :: r => ∃ (n : Nat) (f : Nat → Int32), jx_ba w a n f ∧ k lv (.int (Int32.ofNat n) :: r) bc bs w
  | _ => False
/-- an object of class ci with N fields, as it is born -/
def jt_new (ci N : Nat) (fs : List Value) : jx_T := fun _ _ _ k lv st bc bs w => 1 ≤ bc ∧ N ≤ bs ∧ k lv (.ref w.1 :: st) (bc - 1) (bs - N) (jx_al w (.inr (ci, fs)))
def jt_newi : jx_T := fun _ _ _ k lv st bc bs w => match st with
  | .int n :: r => ∃ N : Nat, n = Int32.ofNat N ∧ N ≤ 100000 ∧ 1 ≤ bc ∧ N ≤ bs ∧ k lv (.ref w.1 :: r) (bc - 1) (bs - N) (jx_al w (.inl (.int, N, .inl (fun _ => 0))))
  | _ => False
def jt_newb : jx_T := fun _ _ _ k lv st bc bs w => match st with
  | .int n :: r => ∃ N : Nat, n = Int32.ofNat N ∧ N ≤ 100000 ∧ 1 ≤ bc ∧ N ≤ bs ∧ k lv (.ref w.1 :: r) (bc - 1) (bs - N) (jx_al w (.inl (.byte, N, .inl (fun _ => 0))))
  | _ => False
def jt_newr (ci : Nat) : jx_T := fun _ _ _ k lv st bc bs w => match st with
  | .int n :: r => ∃ N : Nat, n = Int32.ofNat N ∧ N ≤ 100000 ∧ 1 ≤ bc ∧ N ≤ bs ∧ k lv (.ref w.1 :: r) (bc - 1) (bs - N) (jx_al w (.inl (.object (jx_nm ci), N, .inr (.inr (.inr (.inr (fun _ => none)))))))
  | _ => False
def jt_cpy (ty : FieldType) : jx_T := fun _ _ _ k lv st bc bs w => match st with
  | [.int n, .int dp, .ref a, .int sp, .ref a0] => ∃ (n0 n1 : Nat) (f g : Nat → Int32), w.2.2 a0 = some (.inl (ty, n0, .inl f)) ∧ w.2.2 a = some (.inl (ty, n1, .inl g)) ∧ ¬ sp < 0 ∧ ¬ dp < 0 ∧ ¬ n < 0 ∧ sp.toNatClampNeg + n.toNatClampNeg ≤ n0 ∧ dp.toNatClampNeg + n.toNatClampNeg ≤ n1 ∧ (∀ i, i < n.toNatClampNeg → fits ty (.int (f (sp.toNatClampNeg + i))) = true) ∧ k lv [] bc bs (jx_up w a (.inl (ty, n1, .inl (va_cpy f g sp.toNatClampNeg dp.toNatClampNeg n.toNatClampNeg))))
  | _ => False
def jt_mmin : jx_T := fun _ _ _ k lv st bc bs w => match st with
  | .int y :: .int x :: r => match Nat.ble ((r.map fun v => v.category).sum) 8 with
    | true => k lv (.int (if y < x then y else x) :: r) bc bs w
    | false => False
  | _ => False
def jt_mmax : jx_T := fun _ _ _ k lv st bc bs w => match st with
  | .int y :: .int x :: r => match Nat.ble ((r.map fun v => v.category).sum) 8 with
    | true => k lv (.int (if x < y then y else x) :: r) bc bs w
    | false => False
  | _ => False
def jt_oi : jx_T := fun _ _ _ k lv st bc bs w => match st with
  | [.ref _] => k lv [] bc bs w
  | _ => False
def jt_ri : jx_T := fun _ _ q _ _ st _ _ w => match st with
  | [.int x] => q w (some (.int x))
  | _ => False
def jt_rz : jx_T := fun _ _ q _ _ st _ _ w => match st with
  | [.int x] => (x = 0 ∨ x = 1) ∧ q w (some (.int x))
  | _ => False
def jt_rl : jx_T := fun _ _ q _ _ st _ _ w => match st with
  | [.long x] => q w (some (.long x))
  | _ => False
def jt_rr : jx_T := fun _ _ q _ _ st _ _ w => match st with
  | [.ref x] => q w (some (.ref x))
  | _ => False
def jt_rv : jx_T := fun _ _ q _ _ st _ _ w => match st with
  | [] => q w none
  | _ => False
/-- a method: its name, code, locals, answer, the cells and slots that it may make, its frames and locals' words below it -/
abbrev jx_Me : Type := MethodName × ByteArray × Nat × Option FieldType × (Nat × Nat) × (Nat × Nat)
/-- a call of y with na values off the stack; rk: what comes back (0 nothing, 1 int, 2 long, 3 reference) -/
def jx_ret (rk : Nat) (k : List Value → jx_W → Prop) (rest : List Value) : jx_Q := match rk with
  | 0 => fun w r => r = none ∧ k rest w
  | 1 => fun w r => ∃ x : Int32, r = some (.int x) ∧ k (.int x :: rest) w
  | 2 => fun w r => ∃ x : Int64, r = some (.long x) ∧ k (.long x :: rest) w
  | _ => fun w r => ∃ x : Nat, r = some (.ref x) ∧ k (.ref x :: rest) w
def jx_fit (rest : List Value) (args : List Value) (maxL : Nat) : Bool := Nat.ble ((rest.map fun v => v.category).sum) 8 && Nat.ble (lg_sl args).length maxL
def jt_call (Tb : Nat → jx_Me) (y na rk : Nat) : jx_T := fun c _ _ k lv st bc bs w => match jx_fit (st.drop na) (st.take na).reverse (Tb y).2.2.1, Nat.beq (st.take na).length na with
  | true, true => c y (st.take na).reverse w (jx_ret rk (fun st' w' => k lv st' bc bs w') (st.drop na))
  | _, _ => False
/-- a call on an object of class ci -/
def jt_callV (Tb : Nat → jx_Me) (ci y na rk : Nat) : jx_T := fun c _ _ k lv st bc bs w => match jx_fit (st.drop na) (st.take na).reverse (Tb y).2.2.1, Nat.beq (st.take na).length na, (st.take na).reverse with
  | true, true, .ref a :: As => (∃ fs, jx_ob w a ci fs) ∧ c y (.ref a :: As) w (jx_ret rk (fun st' w' => k lv st' bc bs w') (st.drop na))
  | _, _, _ => False
/-- a constructor's call: it makes cells -/
def jt_callA (Tb : Nat → jx_Me) (y na : Nat) : jx_T := fun c _ _ k lv st bc bs w => match jx_fit (st.drop na) (st.take na).reverse (Tb y).2.2.1, Nat.beq (st.take na).length na, (st.take na).reverse with
  | true, true, .ref a :: As => (Tb y).2.2.2.2.1.1 ≤ bc ∧ (Tb y).2.2.2.2.1.2 ≤ bs ∧ c y (.ref a :: As) w (fun w' r => r = none ∧ k lv (st.drop na) (bc - (Tb y).2.2.2.2.1.1) (bs - (Tb y).2.2.2.2.1.2) w')
  | _, _, _ => False
end
section
/-! FROM THE PLAIN MACHINE TO THE KIT'S: what a heap has to do with a store; a row for each op -/
abbrev jx_G : Type := va_G × (FieldType → ClassId) × Nat × (Nat → Nat)
def jx_A (G : jx_G) : Nat → Prop := fun q => G.2.2.1 ≤ q
def jx_cv (G : jx_G) : jx_E → va_E
  | .inl (t, a) => .inl (G.2.1 t, a)
  | .inr o => .inr o
def jx_own : jx_E → Bool
  | .inl (.short, _) => false
  | _ => true
def jx_tys (G : jx_G) : List (ClassId × FieldType) := [(G.2.1 .int, .int), (G.2.1 .byte, .byte), (G.2.1 (.object RX2), .object RX2), (G.2.1 (.object RX5), .object RX5)]
def jx_wl : List Cond := lw_tbl.filter goodWord
def jx_sts : List (String × String × String) := [("TornStreams", "LOWEST_SETTING", "[I"), ("TornStreams", "HIGHEST_SETTING", "[I")]
def jx_nest : List (String × Nat × MethodName × String) := [("TornStreams", 19, ⟨"TornStreams$Automaton", "<init>", "()V"⟩, "TornStreams"), ("TornStreams", 28, ⟨"TornStreams$Finds", "<init>", "()V"⟩, "TornStreams"), ("TornStreams$State", 11, ⟨"TornStreams$Words", "<init>", "()V"⟩, "TornStreams"), ("TornStreams$Reader", 93, ⟨"TornStreams", "isLetter", "(I)Z"⟩, "TornStreams")]
def jx_F (G : jx_G) (s : State) : Prop := va_K G.1 vwCl (jx_tys G) s ∧ G.2.2.1 ≤ s.heap.size ∧ (∀ (i : Nat) (q : String × String × String), jx_sts[i]? = some q → va_Z q.1 q.2.1 q.2.2 (.ref (G.2.2.2 i)) (jx_A G) s s.heap) ∧ va_AO RX2 s ∧ va_AO RX5 s ∧ ∀ q ∈ jx_nest, va_Nw (.methodLinkNest q.1 q.2.1 q.2.2.1 q.2.2.2) s
def jx_H (G : jx_G) (s : State) (w : jx_W) (H : Heap) : Prop := H.size = w.1 ∧ w.2.1 = G.2.2.2 ∧ (∀ (a n : Nat) (f : Nat → Int32), w.2.2 a = some (.inl (.short, n, .inl f)) → va_T .int a n (fun j => .int (f j)) (jx_A G) s H) ∧ ∀ (a : Nat) (e : jx_E), w.2.2 a = some e → jx_own e = true → jx_A G a ∧ va_at G.1 vwCl (a, jx_cv G e) H
def jx_PW (G : jx_G) (w : jx_W) (U : State) : Prop := jx_F G U ∧ jx_H G U w U.heap
theorem jx_F.moved {G : jx_G} {s U : State} (h : jx_F G s) (hW : s.WarmedH U.vm) (hz : s.heap.size ≤ U.heap.size) (hq : ∀ a : Nat, a < s.heap.size → ¬ jx_A G a → U.heap[a]? = s.heap[a]?) : jx_F G U := by
  obtain ⟨h1, h2, h3, h4, h5, h6⟩ := h
  exact ⟨va_K.moved hW.alike h1, Nat.le_trans h2 hz, fun i q hi => ((h3 i q hi).moved hW.alike).kept hq, h4.moved hW.alike, h5.moved hW.alike, fun q hm => (h6 q hm).warmM hW⟩
theorem jx_F.calling {G : jx_G} {U : State} {g : JFrame} {mk : MethodId} {a : Array Value} (h : jx_F G U) : jx_F G (U.calling g mk a) := by
  obtain ⟨h1, h2, h3, h4, h5, h6⟩ := h
  exact ⟨va_K.moved (u := U) (U := U.calling g mk a) (Vm.Alike.refl U.vm) h1, h2, fun i q hi => (h3 i q hi).moved (u := U) (U := U.calling g mk a) (Vm.Alike.refl U.vm), h4.moved (u := U) (U := U.calling g mk a) (Vm.Alike.refl U.vm), h5.moved (u := U) (U := U.calling g mk a) (Vm.Alike.refl U.vm), fun q hm => (h6 q hm).same (u := U) (U := U.calling g mk a) rfl rfl⟩
theorem jx_H.moved {G : jx_G} {u U : State} {w : jx_W} {H : Heap} (hvm : u.vm.Alike U.vm) (h : jx_H G u w H) : jx_H G U w H := by
  obtain ⟨h1, h2, h3, h4⟩ := h
  exact ⟨h1, h2, fun a n f ha => (h3 a n f ha).moved hvm, h4⟩
theorem jx_PW.calling {G : jx_G} {w : jx_W} {U : State} {g : JFrame} {mk : MethodId} {a : Array Value} (h : jx_PW G w U) : jx_PW G w (U.calling g mk a) := ⟨h.1.calling, jx_H.moved (u := U) (U := U.calling g mk a) (Vm.Alike.refl U.vm) h.2⟩
theorem jx_H.put {G : jx_G} {s : State} {w : jx_W} {H H1 : Heap} {a : Nat} {e : jx_E} (h : jx_H G s w H) (ha : jx_A G a) (ho : jx_own e = true) (z : H1.size = H.size) (oq : ∀ q : Nat, q ≠ a → H1[q]? = H[q]?) (he : va_at G.1 vwCl (a, jx_cv G e) H1) : jx_H G s (jx_up w a e) H1 := by
  obtain ⟨h1, h2, h3, h4⟩ := h
  refine ⟨z.trans h1, h2, fun b n f hb => ?_, fun b e' hb ho' => ?_⟩
  · have hb' : (if b = a then some e else w.2.2 b) = some (.inl (.short, n, .inl f)) := hb
    by_cases hba : b = a
    · rw [if_pos hba] at hb'
      rw [Option.some.inj hb'] at ho
      cases ho
    · rw [if_neg hba] at hb'
      exact (h3 b n f hb').kept (fun q _ hq => oq q (fun e => hq (by rw [e]; exact ha)))
  · have hb' : (if b = a then some e else w.2.2 b) = some e' := hb
    by_cases hba : b = a
    · rw [if_pos hba] at hb'
      rw [← Option.some.inj hb', hba]
      exact ⟨ha, he⟩
    · rw [if_neg hba] at hb'
      obtain ⟨g1, g2⟩ := h4 b e' hb' ho'
      exact ⟨g1, g2.kept (oq b hba)⟩
theorem jx_H.new {G : jx_G} {s : State} {w : jx_W} {H H1 : Heap} {e : jx_E} (h : jx_H G s w H) (ha : jx_A G H.size) (ho : jx_own e = true) (z : H1.size = H.size + 1) (oq : ∀ q : Nat, q < H.size → H1[q]? = H[q]?) (he : va_at G.1 vwCl (H.size, jx_cv G e) H1) : jx_H G s (jx_al w e) H1 := by
  obtain ⟨h1, h2, h3, h4⟩ := h
  refine ⟨by rw [z, h1]; rfl, h2, fun b n f hb => ?_, fun b e' hb ho' => ?_⟩
  · have hb' : (if b = w.1 then some e else w.2.2 b) = some (.inl (.short, n, .inl f)) := hb
    by_cases hba : b = w.1
    · rw [if_pos hba] at hb'
      rw [Option.some.inj hb'] at ho
      cases ho
    · rw [if_neg hba] at hb'
      exact (h3 b n f hb').kept (fun q hq _ => oq q hq)
  · have hb' : (if b = w.1 then some e else w.2.2 b) = some e' := hb
    by_cases hba : b = w.1
    · rw [if_pos hba] at hb'
      rw [← Option.some.inj hb', hba, ← h1]
      exact ⟨ha, he⟩
    · rw [if_neg hba] at hb'
      obtain ⟨g1, g2⟩ := h4 b e' hb' ho'
      exact ⟨g1, g2.kept (oq b g2.lt)⟩
/-- a cell of the store as a world of its own -/
theorem jx_H.one {G : jx_G} {s : State} {w : jx_W} {H : Heap} {a : Nat} {e : jx_E} (h : jx_H G s w H) (ha : w.2.2 a = some e) (ho : jx_own e = true) : va_P G.1 vwCl [(a, jx_cv G e)] H := fun k q hq => by
  have hz : k < 1 := (List.getElem?_eq_some_iff.mp hq).1
  rw [show k = 0 by omega] at hq
  cases hq
  exact (h.2.2.2 a e ha ho).2
theorem jx_get_mem {lv : jx_L} {i : Nat} {v : Value} (h : jx_get lv i = some v) : (i, v) ∈ lv := by
  induction lv with
  | nil => cases h
  | cons q t ih =>
    obtain ⟨j, u⟩ := q
    unfold jx_get at h
    cases hb : Nat.beq j i with
    | true =>
      rw [hb] at h
      have : j = i := Nat.eq_of_beq_eq_true hb
      subst this
      cases h
      exact List.mem_cons_self
    | false => rw [hb] at h; exact List.mem_cons_of_mem _ (ih h)
theorem jx_get_has {ls : Array Slot} {nL : Nat} {lv : jx_L} {i : Nat} {v : Value} (hl : lv_has ls nL lv) (h : jx_get lv i = some v) : ls[i]? = some (.val v) := hl.2.2 (i, v) (jx_get_mem h)
theorem jx_pick_sub {lv : jx_L} : ∀ (is : List Nat) (q : Nat × Value), q ∈ jx_pick is lv → q ∈ lv
  | [], q, h => by cases h
  | i :: t, q, h => by
    unfold jx_pick at h
    cases hg : jx_get lv i with
    | none => rw [hg] at h; exact jx_pick_sub t q h
    | some v =>
      rw [hg] at h
      rcases List.mem_cons.mp h with h | h
      · rw [h]; exact jx_get_mem hg
      · exact jx_pick_sub t q h
theorem jx_pick_has {ls : Array Slot} {nL : Nat} {lv : jx_L} (hl : lv_has ls nL lv) (is : List Nat) : lv_has ls nL (jx_pick is lv) := ⟨hl.1, hl.2.1, fun q hq => hl.2.2 q (jx_pick_sub is q hq)⟩
def jx_X (p : Program) (s : State) (m : MethodId) (args : Array Value) (meth : Method) (c : Code) (R : Room) (G : jx_G) (own nm : String) (cc : ByteArray) (nL mc ms : Nat) : Prop :=
  p.tables.exec = Jvm.exec ∧ c.code = cc ∧ c.maxLocals = nL ∧ s.vm.findClass own = some m.cls ∧ (∀ w ∈ jx_wl, w.before args s = true) ∧ meth.name = nm ∧ jx_F G s ∧ R.cells = mc ∧ R.slots = ms
def jx_KS (p : Program) (l : Launch) (e : Env) (R : Room) (s : State) (m : MethodId) (args : Array Value) (below : List Frame) (meth : Method) (c : Code) (Φ : State → Prop) (G : jx_G) (nL mc ms : Nat) (pc : Nat) (K : jx_K) : Prop :=
  ∀ (H : Heap) (locs : List Loc) (cells slots : Nat) (ls : Array Slot) (lv : jx_L) (st : List Value) (bc bs : Nat) (w : jx_W),
    va_S (jx_A G) s.heap H locs → jx_H G s w H → lv_has ls nL lv → cells + bc = mc → slots + bs = ms → K lv st bc bs w → W p l e R s m args below meth c H locs cells slots Φ (F0 m pc ls st)
section JXR
variable {p : Program} {l : Launch} {e : Env} {R : Room} {s : State} {m : MethodId} {args : Array Value} {below : List Frame} {meth : Method} {c : Code} {Φ : State → Prop} {G : jx_G} {own nm : String} {cc : ByteArray} {nL mc ms pc : Nat} {C : jx_C} {J : jx_J} {q : jx_Q} {K : jx_K}
theorem js_iconst (X : jx_X p s m args meth c R G own nm cc nL mc ms) {n : Int} {v : Int32} (hv : Int32.ofInt n = v) (d : decode cc pc = .ok (.iconst n, 1)) (hk : jx_KS p l e R s m args below meth c Φ G nL mc ms (pc + 1) (K)) : jx_KS p l e R s m args below meth c Φ G nL mc ms (pc) (jt_c (.int v) C J q K) := fun H locs cells slots ls lv st bc bs w hS hH hl hc hs h => lv_iconst X.1 X.2.1 d hv (hk _ _ _ _ _ _ _ _ _ _ hS hH hl hc hs h)
theorem js_bipush (X : jx_X p s m args meth c R G own nm cc nL mc ms) {n : Int} {v : Int32} (hv : (Int8.ofInt n).toInt32 = v) (d : decode cc pc = .ok (.bipush n, 2)) (hk : jx_KS p l e R s m args below meth c Φ G nL mc ms (pc + 2) (K)) : jx_KS p l e R s m args below meth c Φ G nL mc ms (pc) (jt_c (.int v) C J q K) := fun H locs cells slots ls lv st bc bs w hS hH hl hc hs h => lv_bipush X.1 X.2.1 d hv (hk _ _ _ _ _ _ _ _ _ _ hS hH hl hc hs h)
theorem js_sipush (X : jx_X p s m args meth c R G own nm cc nL mc ms) {n : Int} {v : Int32} (hv : (Int16.ofInt n).toInt32 = v) (d : decode cc pc = .ok (.sipush n, 3)) (hk : jx_KS p l e R s m args below meth c Φ G nL mc ms (pc + 3) (K)) : jx_KS p l e R s m args below meth c Φ G nL mc ms (pc) (jt_c (.int v) C J q K) := fun H locs cells slots ls lv st bc bs w hS hH hl hc hs h => lv_sipush X.1 X.2.1 d hv (hk _ _ _ _ _ _ _ _ _ _ hS hH hl hc hs h)
theorem js_lconst (X : jx_X p s m args meth c R G own nm cc nL mc ms) {n : Fin 2} {v : Int64} (hv : Int64.ofNat (n : Nat) = v) (d : decode cc pc = .ok (.lconst n, 1)) (hk : jx_KS p l e R s m args below meth c Φ G nL mc ms (pc + 1) (K)) : jx_KS p l e R s m args below meth c Φ G nL mc ms (pc) (jt_c (.long v) C J q K) := fun H locs cells slots ls lv st bc bs w hS hH hl hc hs h => lv_lconst X.1 X.2.1 d hv (hk _ _ _ _ _ _ _ _ _ _ hS hH hl hc hs h)
theorem js_ldcw (X : jx_X p s m args meth c R G own nm cc nL mc ms) {index : Nat} {v : Int32} (hw : (Cond.constant own index v) ∈ jx_wl) (d : decode cc pc = .ok (.ldc_w index, 3)) (hk : jx_KS p l e R s m args below meth c Φ G nL mc ms (pc + 3) (K)) : jx_KS p l e R s m args below meth c Φ G nL mc ms (pc) (jt_c (.int v) C J q K) := fun H locs cells slots ls lv st bc bs w hS hH hl hc hs h => lv_ldcw X.1 X.2.1 X.2.2.2.1 (X.2.2.2.2.1 _ hw) d (hk _ _ _ _ _ _ _ _ _ _ hS hH hl hc hs h)
theorem js_ldc (X : jx_X p s m args meth c R G own nm cc nL mc ms) {index : Nat} {v : Int32} (hw : (Cond.constant own index v) ∈ jx_wl) (d : decode cc pc = .ok (.ldc index, 2)) (hk : jx_KS p l e R s m args below meth c Φ G nL mc ms (pc + 2) (K)) : jx_KS p l e R s m args below meth c Φ G nL mc ms (pc) (jt_c (.int v) C J q K) := fun H locs cells slots ls lv st bc bs w hS hH hl hc hs h => lv_ldc X.1 X.2.1 X.2.2.2.1 (X.2.2.2.2.1 _ hw) d (hk _ _ _ _ _ _ _ _ _ _ hS hH hl hc hs h)
theorem js_ldc2 (X : jx_X p s m args meth c R G own nm cc nL mc ms) {index : Nat} {v : Int64} (hw : (Cond.constantLong own index v) ∈ jx_wl) (d : decode cc pc = .ok (.ldc2_w index, 3)) (hk : jx_KS p l e R s m args below meth c Φ G nL mc ms (pc + 3) (K)) : jx_KS p l e R s m args below meth c Φ G nL mc ms (pc) (jt_c (.long v) C J q K) := fun H locs cells slots ls lv st bc bs w hS hH hl hc hs h => lv_ldc2 X.1 X.2.1 X.2.2.2.1 (X.2.2.2.2.1 _ hw) d (hk _ _ _ _ _ _ _ _ _ _ hS hH hl hc hs h)
theorem js_iload (X : jx_X p s m args meth c R G own nm cc nL mc ms) {i : Nat} (d : decode cc pc = .ok (.iload i, 2)) (hk : jx_KS p l e R s m args below meth c Φ G nL mc ms (pc + 2) (K)) : jx_KS p l e R s m args below meth c Φ G nL mc ms (pc) (jt_ldi i C J q K) := by
  intro H locs cells slots ls lv st bc bs w hS hH hl hc hs h
  unfold jt_ldi at h
  split at h
  · rename_i hg; exact lv_iload X.1 X.2.1 d (jx_get_has hl hg) (hk _ _ _ _ _ _ _ _ _ _ hS hH hl hc hs h)
  · exact h.elim
theorem js_iload_n (X : jx_X p s m args meth c R G own nm cc nL mc ms) {i : Fin 4} (d : decode cc pc = .ok (.iload_n i, 1)) (hk : jx_KS p l e R s m args below meth c Φ G nL mc ms (pc + 1) (K)) : jx_KS p l e R s m args below meth c Φ G nL mc ms (pc) (jt_ldi (i : Nat) C J q K) := by
  intro H locs cells slots ls lv st bc bs w hS hH hl hc hs h
  unfold jt_ldi at h
  split at h
  · rename_i hg; exact lv_iload_n X.1 X.2.1 d rfl (jx_get_has hl hg) (hk _ _ _ _ _ _ _ _ _ _ hS hH hl hc hs h)
  · exact h.elim
theorem js_lload (X : jx_X p s m args meth c R G own nm cc nL mc ms) {i : Nat} (d : decode cc pc = .ok (.lload i, 2)) (hk : jx_KS p l e R s m args below meth c Φ G nL mc ms (pc + 2) (K)) : jx_KS p l e R s m args below meth c Φ G nL mc ms (pc) (jt_ldl i C J q K) := by
  intro H locs cells slots ls lv st bc bs w hS hH hl hc hs h
  unfold jt_ldl at h
  split at h
  · rename_i hg; exact lv_lload X.1 X.2.1 d (jx_get_has hl hg) (hk _ _ _ _ _ _ _ _ _ _ hS hH hl hc hs h)
  · exact h.elim
theorem js_lload_n (X : jx_X p s m args meth c R G own nm cc nL mc ms) {i : Fin 4} (d : decode cc pc = .ok (.lload_n i, 1)) (hk : jx_KS p l e R s m args below meth c Φ G nL mc ms (pc + 1) (K)) : jx_KS p l e R s m args below meth c Φ G nL mc ms (pc) (jt_ldl (i : Nat) C J q K) := by
  intro H locs cells slots ls lv st bc bs w hS hH hl hc hs h
  unfold jt_ldl at h
  split at h
  · rename_i hg; exact lv_lload_n X.1 X.2.1 d rfl (jx_get_has hl hg) (hk _ _ _ _ _ _ _ _ _ _ hS hH hl hc hs h)
  · exact h.elim
theorem js_aload (X : jx_X p s m args meth c R G own nm cc nL mc ms) {i : Nat} (d : decode cc pc = .ok (.aload i, 2)) (hk : jx_KS p l e R s m args below meth c Φ G nL mc ms (pc + 2) (K)) : jx_KS p l e R s m args below meth c Φ G nL mc ms (pc) (jt_lda i C J q K) := by
  intro H locs cells slots ls lv st bc bs w hS hH hl hc hs h
  unfold jt_lda at h
  split at h
  · rename_i hg; exact lv_aload X.1 X.2.1 d (jx_get_has hl hg) (hk _ _ _ _ _ _ _ _ _ _ hS hH hl hc hs h)
  · exact h.elim
theorem js_aload_n (X : jx_X p s m args meth c R G own nm cc nL mc ms) {i : Fin 4} (d : decode cc pc = .ok (.aload_n i, 1)) (hk : jx_KS p l e R s m args below meth c Φ G nL mc ms (pc + 1) (K)) : jx_KS p l e R s m args below meth c Φ G nL mc ms (pc) (jt_lda (i : Nat) C J q K) := by
  intro H locs cells slots ls lv st bc bs w hS hH hl hc hs h
  unfold jt_lda at h
  split at h
  · rename_i hg; exact lv_aload_n X.1 X.2.1 d rfl (jx_get_has hl hg) (hk _ _ _ _ _ _ _ _ _ _ hS hH hl hc hs h)
  · exact h.elim
theorem js_istore_n (X : jx_X p s m args meth c R G own nm cc nL mc ms) {i : Fin 4} (hn : (i : Nat) < nL) (d : decode cc pc = .ok (.istore_n i, 1)) (hk : jx_KS p l e R s m args below meth c Φ G nL mc ms (pc + 1) (K)) : jx_KS p l e R s m args below meth c Φ G nL mc ms (pc) (jt_sti (i : Nat) C J q K) := by
  intro H locs cells slots ls lv st bc bs w hS hH hl hc hs h
  unfold jt_sti at h
  split at h
  · exact lv_istore_n X.1 X.2.1 d rfl hl hn rfl (fun ls' hl' => hk _ _ _ _ _ _ _ _ _ _ hS hH hl' hc hs h)
  · exact h.elim
theorem js_istore (X : jx_X p s m args meth c R G own nm cc nL mc ms) {i : Nat} (hn : i < nL) (d : decode cc pc = .ok (.istore i, 2)) (hk : jx_KS p l e R s m args below meth c Φ G nL mc ms (pc + 2) (K)) : jx_KS p l e R s m args below meth c Φ G nL mc ms (pc) (jt_sti i C J q K) := by
  intro H locs cells slots ls lv st bc bs w hS hH hl hc hs h
  unfold jt_sti at h
  split at h
  · exact lv_istore X.1 X.2.1 d hl hn rfl (fun ls' hl' => hk _ _ _ _ _ _ _ _ _ _ hS hH hl' hc hs h)
  · exact h.elim
theorem js_lstore_n (X : jx_X p s m args meth c R G own nm cc nL mc ms) {i : Fin 4} (hn : (i : Nat) + 1 < nL) (d : decode cc pc = .ok (.lstore_n i, 1)) (hk : jx_KS p l e R s m args below meth c Φ G nL mc ms (pc + 1) (K)) : jx_KS p l e R s m args below meth c Φ G nL mc ms (pc) (jt_stl (i : Nat) C J q K) := by
  intro H locs cells slots ls lv st bc bs w hS hH hl hc hs h
  unfold jt_stl at h
  split at h
  · exact lv_lstore_n X.1 X.2.1 d rfl hl hn rfl (fun ls' hl' => hk _ _ _ _ _ _ _ _ _ _ hS hH hl' hc hs h)
  · exact h.elim
theorem js_lstore (X : jx_X p s m args meth c R G own nm cc nL mc ms) {i : Nat} (hn : i + 1 < nL) (d : decode cc pc = .ok (.lstore i, 2)) (hk : jx_KS p l e R s m args below meth c Φ G nL mc ms (pc + 2) (K)) : jx_KS p l e R s m args below meth c Φ G nL mc ms (pc) (jt_stl i C J q K) := by
  intro H locs cells slots ls lv st bc bs w hS hH hl hc hs h
  unfold jt_stl at h
  split at h
  · exact lv_lstore X.1 X.2.1 d hl hn rfl (fun ls' hl' => hk _ _ _ _ _ _ _ _ _ _ hS hH hl' hc hs h)
  · exact h.elim
theorem js_astore_n (X : jx_X p s m args meth c R G own nm cc nL mc ms) {i : Fin 4} (hn : (i : Nat) < nL) (d : decode cc pc = .ok (.astore_n i, 1)) (hk : jx_KS p l e R s m args below meth c Φ G nL mc ms (pc + 1) (K)) : jx_KS p l e R s m args below meth c Φ G nL mc ms (pc) (jt_sta (i : Nat) C J q K) := by
  intro H locs cells slots ls lv st bc bs w hS hH hl hc hs h
  unfold jt_sta at h
  split at h
  · exact lv_astore_n X.1 X.2.1 d rfl hl hn rfl (fun ls' hl' => hk _ _ _ _ _ _ _ _ _ _ hS hH hl' hc hs h)
  · exact h.elim
theorem js_astore (X : jx_X p s m args meth c R G own nm cc nL mc ms) {i : Nat} (hn : i < nL) (d : decode cc pc = .ok (.astore i, 2)) (hk : jx_KS p l e R s m args below meth c Φ G nL mc ms (pc + 2) (K)) : jx_KS p l e R s m args below meth c Φ G nL mc ms (pc) (jt_sta i C J q K) := by
  intro H locs cells slots ls lv st bc bs w hS hH hl hc hs h
  unfold jt_sta at h
  split at h
  · exact lv_astore X.1 X.2.1 d hl hn rfl (fun ls' hl' => hk _ _ _ _ _ _ _ _ _ _ hS hH hl' hc hs h)
  · exact h.elim
theorem js_iinc (X : jx_X p s m args meth c R G own nm cc nL mc ms) {i : Nat} {n : Int} {v : Int32} (hv : Int32.ofInt n = v) (hn : i < nL) (d : decode cc pc = .ok (.iinc i n, 3)) (hk : jx_KS p l e R s m args below meth c Φ G nL mc ms (pc + 3) (K)) : jx_KS p l e R s m args below meth c Φ G nL mc ms (pc) (jt_inc i v C J q K) := by
  intro H locs cells slots ls lv st bc bs w hS hH hl hc hs h
  unfold jt_inc at h
  split at h
  · rename_i hg; obtain ⟨k0, hk0⟩ := List.getElem?_of_mem (jx_get_mem hg); exact lv_iinc X.1 X.2.1 d hl hk0 (by rw [hv]) hn rfl (fun ls' hl' => hk _ _ _ _ _ _ _ _ _ _ hS hH hl' hc hs h)
  · exact h.elim
theorem js_iadd (X : jx_X p s m args meth c R G own nm cc nL mc ms)  (d : decode cc pc = .ok (.iadd, 1)) (hk : jx_KS p l e R s m args below meth c Φ G nL mc ms (pc + 1) (K)) : jx_KS p l e R s m args below meth c Φ G nL mc ms (pc) (jt_ii (fun x y => x + y) C J q K) := by
  intro H locs cells slots ls lv st bc bs w hS hH hl hc hs h
  unfold jt_ii at h
  split at h
  · exact lv_iadd X.1 X.2.1 d (hk _ _ _ _ _ _ _ _ _ _ hS hH hl hc hs h)
  · exact h.elim
theorem js_isub (X : jx_X p s m args meth c R G own nm cc nL mc ms)  (d : decode cc pc = .ok (.isub, 1)) (hk : jx_KS p l e R s m args below meth c Φ G nL mc ms (pc + 1) (K)) : jx_KS p l e R s m args below meth c Φ G nL mc ms (pc) (jt_ii (fun x y => x - y) C J q K) := by
  intro H locs cells slots ls lv st bc bs w hS hH hl hc hs h
  unfold jt_ii at h
  split at h
  · exact lv_isub X.1 X.2.1 d (hk _ _ _ _ _ _ _ _ _ _ hS hH hl hc hs h)
  · exact h.elim
theorem js_imul (X : jx_X p s m args meth c R G own nm cc nL mc ms)  (d : decode cc pc = .ok (.imul, 1)) (hk : jx_KS p l e R s m args below meth c Φ G nL mc ms (pc + 1) (K)) : jx_KS p l e R s m args below meth c Φ G nL mc ms (pc) (jt_ii (fun x y => x * y) C J q K) := by
  intro H locs cells slots ls lv st bc bs w hS hH hl hc hs h
  unfold jt_ii at h
  split at h
  · exact lv_imul X.1 X.2.1 d (hk _ _ _ _ _ _ _ _ _ _ hS hH hl hc hs h)
  · exact h.elim
theorem js_iand (X : jx_X p s m args meth c R G own nm cc nL mc ms)  (d : decode cc pc = .ok (.iand, 1)) (hk : jx_KS p l e R s m args below meth c Φ G nL mc ms (pc + 1) (K)) : jx_KS p l e R s m args below meth c Φ G nL mc ms (pc) (jt_ii (fun x y => x &&& y) C J q K) := by
  intro H locs cells slots ls lv st bc bs w hS hH hl hc hs h
  unfold jt_ii at h
  split at h
  · exact lv_iand X.1 X.2.1 d (hk _ _ _ _ _ _ _ _ _ _ hS hH hl hc hs h)
  · exact h.elim
theorem js_ior (X : jx_X p s m args meth c R G own nm cc nL mc ms)  (d : decode cc pc = .ok (.ior, 1)) (hk : jx_KS p l e R s m args below meth c Φ G nL mc ms (pc + 1) (K)) : jx_KS p l e R s m args below meth c Φ G nL mc ms (pc) (jt_ii (fun x y => x ||| y) C J q K) := by
  intro H locs cells slots ls lv st bc bs w hS hH hl hc hs h
  unfold jt_ii at h
  split at h
  · exact lv_ior X.1 X.2.1 d (hk _ _ _ _ _ _ _ _ _ _ hS hH hl hc hs h)
  · exact h.elim
theorem js_ixor (X : jx_X p s m args meth c R G own nm cc nL mc ms)  (d : decode cc pc = .ok (.ixor, 1)) (hk : jx_KS p l e R s m args below meth c Φ G nL mc ms (pc + 1) (K)) : jx_KS p l e R s m args below meth c Φ G nL mc ms (pc) (jt_ii (fun x y => x ^^^ y) C J q K) := by
  intro H locs cells slots ls lv st bc bs w hS hH hl hc hs h
  unfold jt_ii at h
  split at h
  · exact lv_ixor X.1 X.2.1 d (hk _ _ _ _ _ _ _ _ _ _ hS hH hl hc hs h)
  · exact h.elim
theorem js_ishl (X : jx_X p s m args meth c R G own nm cc nL mc ms)  (d : decode cc pc = .ok (.ishl, 1)) (hk : jx_KS p l e R s m args below meth c Φ G nL mc ms (pc + 1) (K)) : jx_KS p l e R s m args below meth c Φ G nL mc ms (pc) (jt_ii (fun x y => x <<< (y &&& 31)) C J q K) := by
  intro H locs cells slots ls lv st bc bs w hS hH hl hc hs h
  unfold jt_ii at h
  split at h
  · exact lv_ishl X.1 X.2.1 d (hk _ _ _ _ _ _ _ _ _ _ hS hH hl hc hs h)
  · exact h.elim
theorem js_ishr (X : jx_X p s m args meth c R G own nm cc nL mc ms)  (d : decode cc pc = .ok (.ishr, 1)) (hk : jx_KS p l e R s m args below meth c Φ G nL mc ms (pc + 1) (K)) : jx_KS p l e R s m args below meth c Φ G nL mc ms (pc) (jt_ii (fun x y => x >>> (y &&& 31)) C J q K) := by
  intro H locs cells slots ls lv st bc bs w hS hH hl hc hs h
  unfold jt_ii at h
  split at h
  · exact lv_ishr X.1 X.2.1 d (hk _ _ _ _ _ _ _ _ _ _ hS hH hl hc hs h)
  · exact h.elim
theorem js_iushr (X : jx_X p s m args meth c R G own nm cc nL mc ms)  (d : decode cc pc = .ok (.iushr, 1)) (hk : jx_KS p l e R s m args below meth c Φ G nL mc ms (pc + 1) (K)) : jx_KS p l e R s m args below meth c Φ G nL mc ms (pc) (jt_ii (fun x y => (x.toUInt32 >>> (y.toUInt32 &&& Int32.toUInt32 31)).toInt32) C J q K) := by
  intro H locs cells slots ls lv st bc bs w hS hH hl hc hs h
  unfold jt_ii at h
  split at h
  · exact lv_iushr X.1 X.2.1 d rfl (hk _ _ _ _ _ _ _ _ _ _ hS hH hl hc hs h)
  · exact h.elim
theorem js_irem (X : jx_X p s m args meth c R G own nm cc nL mc ms)  (d : decode cc pc = .ok (.irem, 1)) (hk : jx_KS p l e R s m args below meth c Φ G nL mc ms (pc + 1) (K)) : jx_KS p l e R s m args below meth c Φ G nL mc ms (pc) (jt_irem C J q K) := by
  intro H locs cells slots ls lv st bc bs w hS hH hl hc hs h
  unfold jt_irem at h
  split at h
  · exact lv_irem X.1 X.2.1 d h.1 (hk _ _ _ _ _ _ _ _ _ _ hS hH hl hc hs h.2)
  · exact h.elim
theorem js_ladd (X : jx_X p s m args meth c R G own nm cc nL mc ms)  (d : decode cc pc = .ok (.ladd, 1)) (hk : jx_KS p l e R s m args below meth c Φ G nL mc ms (pc + 1) (K)) : jx_KS p l e R s m args below meth c Φ G nL mc ms (pc) (jt_ll (fun x y => x + y) C J q K) := by
  intro H locs cells slots ls lv st bc bs w hS hH hl hc hs h
  unfold jt_ll at h
  split at h
  · exact lv_ladd X.1 X.2.1 d (hk _ _ _ _ _ _ _ _ _ _ hS hH hl hc hs h)
  · exact h.elim
theorem js_lsub (X : jx_X p s m args meth c R G own nm cc nL mc ms)  (d : decode cc pc = .ok (.lsub, 1)) (hk : jx_KS p l e R s m args below meth c Φ G nL mc ms (pc + 1) (K)) : jx_KS p l e R s m args below meth c Φ G nL mc ms (pc) (jt_ll (fun x y => x - y) C J q K) := by
  intro H locs cells slots ls lv st bc bs w hS hH hl hc hs h
  unfold jt_ll at h
  split at h
  · exact lv_lsub X.1 X.2.1 d (hk _ _ _ _ _ _ _ _ _ _ hS hH hl hc hs h)
  · exact h.elim
theorem js_lmul (X : jx_X p s m args meth c R G own nm cc nL mc ms)  (d : decode cc pc = .ok (.lmul, 1)) (hk : jx_KS p l e R s m args below meth c Φ G nL mc ms (pc + 1) (K)) : jx_KS p l e R s m args below meth c Φ G nL mc ms (pc) (jt_ll (fun x y => x * y) C J q K) := by
  intro H locs cells slots ls lv st bc bs w hS hH hl hc hs h
  unfold jt_ll at h
  split at h
  · exact lv_lmul X.1 X.2.1 d (hk _ _ _ _ _ _ _ _ _ _ hS hH hl hc hs h)
  · exact h.elim
theorem js_land (X : jx_X p s m args meth c R G own nm cc nL mc ms)  (d : decode cc pc = .ok (.land, 1)) (hk : jx_KS p l e R s m args below meth c Φ G nL mc ms (pc + 1) (K)) : jx_KS p l e R s m args below meth c Φ G nL mc ms (pc) (jt_ll (fun x y => x &&& y) C J q K) := by
  intro H locs cells slots ls lv st bc bs w hS hH hl hc hs h
  unfold jt_ll at h
  split at h
  · exact lv_land X.1 X.2.1 d (hk _ _ _ _ _ _ _ _ _ _ hS hH hl hc hs h)
  · exact h.elim
theorem js_lor (X : jx_X p s m args meth c R G own nm cc nL mc ms)  (d : decode cc pc = .ok (.lor, 1)) (hk : jx_KS p l e R s m args below meth c Φ G nL mc ms (pc + 1) (K)) : jx_KS p l e R s m args below meth c Φ G nL mc ms (pc) (jt_ll (fun x y => x ||| y) C J q K) := by
  intro H locs cells slots ls lv st bc bs w hS hH hl hc hs h
  unfold jt_ll at h
  split at h
  · exact lv_lor X.1 X.2.1 d (hk _ _ _ _ _ _ _ _ _ _ hS hH hl hc hs h)
  · exact h.elim
theorem js_lshl (X : jx_X p s m args meth c R G own nm cc nL mc ms)  (d : decode cc pc = .ok (.lshl, 1)) (hk : jx_KS p l e R s m args below meth c Φ G nL mc ms (pc + 1) (K)) : jx_KS p l e R s m args below meth c Φ G nL mc ms (pc) (jt_li (fun x y => x <<< (y.toInt64 &&& 63)) C J q K) := by
  intro H locs cells slots ls lv st bc bs w hS hH hl hc hs h
  unfold jt_li at h
  split at h
  · exact lv_lshl X.1 X.2.1 d rfl (hk _ _ _ _ _ _ _ _ _ _ hS hH hl hc hs h)
  · exact h.elim
theorem js_lushr (X : jx_X p s m args meth c R G own nm cc nL mc ms)  (d : decode cc pc = .ok (.lushr, 1)) (hk : jx_KS p l e R s m args below meth c Φ G nL mc ms (pc + 1) (K)) : jx_KS p l e R s m args below meth c Φ G nL mc ms (pc) (jt_li (fun x y => (x.toUInt64 >>> (y.toInt64.toUInt64 &&& Int64.toUInt64 63)).toInt64) C J q K) := by
  intro H locs cells slots ls lv st bc bs w hS hH hl hc hs h
  unfold jt_li at h
  split at h
  · exact lv_lushr X.1 X.2.1 d rfl (hk _ _ _ _ _ _ _ _ _ _ hS hH hl hc hs h)
  · exact h.elim
theorem js_lcmp (X : jx_X p s m args meth c R G own nm cc nL mc ms)  (d : decode cc pc = .ok (.lcmp, 1)) (hk : jx_KS p l e R s m args below meth c Φ G nL mc ms (pc + 1) (K)) : jx_KS p l e R s m args below meth c Φ G nL mc ms (pc) (jt_lcmp C J q K) := by
  intro H locs cells slots ls lv st bc bs w hS hH hl hc hs h
  unfold jt_lcmp at h
  split at h
  · exact W.lcmp X.1 X.2.1 d (hk _ _ _ _ _ _ _ _ _ _ hS hH hl hc hs h)
  · exact h.elim
theorem js_i2l (X : jx_X p s m args meth c R G own nm cc nL mc ms)  (d : decode cc pc = .ok (.i2l, 1)) (hk : jx_KS p l e R s m args below meth c Φ G nL mc ms (pc + 1) (K)) : jx_KS p l e R s m args below meth c Φ G nL mc ms (pc) (jt_i2l C J q K) := by
  intro H locs cells slots ls lv st bc bs w hS hH hl hc hs h
  unfold jt_i2l at h
  split at h
  · exact lv_i2l X.1 X.2.1 d rfl (hk _ _ _ _ _ _ _ _ _ _ hS hH hl hc hs h)
  · exact h.elim
theorem js_l2i (X : jx_X p s m args meth c R G own nm cc nL mc ms)  (d : decode cc pc = .ok (.l2i, 1)) (hk : jx_KS p l e R s m args below meth c Φ G nL mc ms (pc + 1) (K)) : jx_KS p l e R s m args below meth c Φ G nL mc ms (pc) (jt_l2i C J q K) := by
  intro H locs cells slots ls lv st bc bs w hS hH hl hc hs h
  unfold jt_l2i at h
  split at h
  · exact lv_l2i X.1 X.2.1 d rfl (hk _ _ _ _ _ _ _ _ _ _ hS hH hl hc hs h)
  · exact h.elim
theorem js_i2b (X : jx_X p s m args meth c R G own nm cc nL mc ms)  (d : decode cc pc = .ok (.i2b, 1)) (hk : jx_KS p l e R s m args below meth c Φ G nL mc ms (pc + 1) (K)) : jx_KS p l e R s m args below meth c Φ G nL mc ms (pc) (jt_i2b C J q K) := by
  intro H locs cells slots ls lv st bc bs w hS hH hl hc hs h
  unfold jt_i2b at h
  split at h
  · exact lv_i2b X.1 X.2.1 d rfl (hk _ _ _ _ _ _ _ _ _ _ hS hH hl hc hs h)
  · exact h.elim
theorem js_dup (X : jx_X p s m args meth c R G own nm cc nL mc ms)  (d : decode cc pc = .ok (.dup, 1)) (hk : jx_KS p l e R s m args below meth c Φ G nL mc ms (pc + 1) (K)) : jx_KS p l e R s m args below meth c Φ G nL mc ms (pc) (jt_dup C J q K) := by
  intro H locs cells slots ls lv st bc bs w hS hH hl hc hs h
  unfold jt_dup at h
  split at h
  · exact lv_dup X.1 X.2.1 d rfl (hk _ _ _ _ _ _ _ _ _ _ hS hH hl hc hs h)
  · exact lv_dup X.1 X.2.1 d rfl (hk _ _ _ _ _ _ _ _ _ _ hS hH hl hc hs h)
  · exact h.elim
theorem js_dup2 (X : jx_X p s m args meth c R G own nm cc nL mc ms)  (d : decode cc pc = .ok (.dup2, 1)) (hk : jx_KS p l e R s m args below meth c Φ G nL mc ms (pc + 1) (K)) : jx_KS p l e R s m args below meth c Φ G nL mc ms (pc) (jt_dup2 C J q K) := by
  intro H locs cells slots ls lv st bc bs w hS hH hl hc hs h
  unfold jt_dup2 at h
  split at h
  · exact lv_dup2_11 X.1 X.2.1 d rfl rfl (hk _ _ _ _ _ _ _ _ _ _ hS hH hl hc hs h)
  · exact h.elim
theorem js_pop (X : jx_X p s m args meth c R G own nm cc nL mc ms)  (d : decode cc pc = .ok (.pop, 1)) (hk : jx_KS p l e R s m args below meth c Φ G nL mc ms (pc + 1) (K)) : jx_KS p l e R s m args below meth c Φ G nL mc ms (pc) (jt_pop C J q K) := by
  intro H locs cells slots ls lv st bc bs w hS hH hl hc hs h
  unfold jt_pop at h
  split at h
  · exact lv_pop X.1 X.2.1 d rfl (hk _ _ _ _ _ _ _ _ _ _ hS hH hl hc hs h)
  · exact lv_pop X.1 X.2.1 d rfl (hk _ _ _ _ _ _ _ _ _ _ hS hH hl hc hs h)
  · exact h.elim
theorem js_ifeq (X : jx_X p s m args meth c R G own nm cc nL mc ms) {off : Int} {tgt b : Nat} (ht : (pc : Int) + off = (tgt : Int)) (hj : jx_KS p l e R s m args below meth c Φ G nL mc ms (tgt) (J b)) (d : decode cc pc = .ok (.ifCond .eq off, 3)) (hk : jx_KS p l e R s m args below meth c Φ G nL mc ms (pc + 3) (K)) : jx_KS p l e R s m args below meth c Φ G nL mc ms (pc) (jt_if (fun x => x = 0) (fun x => ¬ x = 0) b C J q K) := by
  intro H locs cells slots ls lv st bc bs w hS hH hl hc hs h
  unfold jt_if at h
  split at h
  · exact lv_if_eq X.1 X.2.1 d ht (fun z => hj _ _ _ _ _ _ _ _ _ _ hS hH hl hc hs (h.1 z)) (fun z => hk _ _ _ _ _ _ _ _ _ _ hS hH hl hc hs (h.2 z))
  · exact h.elim
theorem js_ifne (X : jx_X p s m args meth c R G own nm cc nL mc ms) {off : Int} {tgt b : Nat} (ht : (pc : Int) + off = (tgt : Int)) (hj : jx_KS p l e R s m args below meth c Φ G nL mc ms (tgt) (J b)) (d : decode cc pc = .ok (.ifCond .ne off, 3)) (hk : jx_KS p l e R s m args below meth c Φ G nL mc ms (pc + 3) (K)) : jx_KS p l e R s m args below meth c Φ G nL mc ms (pc) (jt_if (fun x => ¬ x = 0) (fun x => x = 0) b C J q K) := by
  intro H locs cells slots ls lv st bc bs w hS hH hl hc hs h
  unfold jt_if at h
  split at h
  · exact lv_if_ne X.1 X.2.1 d ht (fun z => hj _ _ _ _ _ _ _ _ _ _ hS hH hl hc hs (h.1 z)) (fun z => hk _ _ _ _ _ _ _ _ _ _ hS hH hl hc hs (h.2 z))
  · exact h.elim
theorem js_iflt (X : jx_X p s m args meth c R G own nm cc nL mc ms) {off : Int} {tgt b : Nat} (ht : (pc : Int) + off = (tgt : Int)) (hj : jx_KS p l e R s m args below meth c Φ G nL mc ms (tgt) (J b)) (d : decode cc pc = .ok (.ifCond .lt off, 3)) (hk : jx_KS p l e R s m args below meth c Φ G nL mc ms (pc + 3) (K)) : jx_KS p l e R s m args below meth c Φ G nL mc ms (pc) (jt_if (fun x => x < 0) (fun x => ¬ x < 0) b C J q K) := by
  intro H locs cells slots ls lv st bc bs w hS hH hl hc hs h
  unfold jt_if at h
  split at h
  · exact lv_if_lt X.1 X.2.1 d ht (fun z => hj _ _ _ _ _ _ _ _ _ _ hS hH hl hc hs (h.1 z)) (fun z => hk _ _ _ _ _ _ _ _ _ _ hS hH hl hc hs (h.2 z))
  · exact h.elim
theorem js_ifge (X : jx_X p s m args meth c R G own nm cc nL mc ms) {off : Int} {tgt b : Nat} (ht : (pc : Int) + off = (tgt : Int)) (hj : jx_KS p l e R s m args below meth c Φ G nL mc ms (tgt) (J b)) (d : decode cc pc = .ok (.ifCond .ge off, 3)) (hk : jx_KS p l e R s m args below meth c Φ G nL mc ms (pc + 3) (K)) : jx_KS p l e R s m args below meth c Φ G nL mc ms (pc) (jt_if (fun x => 0 ≤ x) (fun x => ¬ 0 ≤ x) b C J q K) := by
  intro H locs cells slots ls lv st bc bs w hS hH hl hc hs h
  unfold jt_if at h
  split at h
  · exact lv_if_ge X.1 X.2.1 d ht (fun z => hj _ _ _ _ _ _ _ _ _ _ hS hH hl hc hs (h.1 z)) (fun z => hk _ _ _ _ _ _ _ _ _ _ hS hH hl hc hs (h.2 z))
  · exact h.elim
theorem js_ifgt (X : jx_X p s m args meth c R G own nm cc nL mc ms) {off : Int} {tgt b : Nat} (ht : (pc : Int) + off = (tgt : Int)) (hj : jx_KS p l e R s m args below meth c Φ G nL mc ms (tgt) (J b)) (d : decode cc pc = .ok (.ifCond .gt off, 3)) (hk : jx_KS p l e R s m args below meth c Φ G nL mc ms (pc + 3) (K)) : jx_KS p l e R s m args below meth c Φ G nL mc ms (pc) (jt_if (fun x => 0 < x) (fun x => ¬ 0 < x) b C J q K) := by
  intro H locs cells slots ls lv st bc bs w hS hH hl hc hs h
  unfold jt_if at h
  split at h
  · exact lv_if_gt X.1 X.2.1 d ht (fun z => hj _ _ _ _ _ _ _ _ _ _ hS hH hl hc hs (h.1 z)) (fun z => hk _ _ _ _ _ _ _ _ _ _ hS hH hl hc hs (h.2 z))
  · exact h.elim
theorem js_ifle (X : jx_X p s m args meth c R G own nm cc nL mc ms) {off : Int} {tgt b : Nat} (ht : (pc : Int) + off = (tgt : Int)) (hj : jx_KS p l e R s m args below meth c Φ G nL mc ms (tgt) (J b)) (d : decode cc pc = .ok (.ifCond .le off, 3)) (hk : jx_KS p l e R s m args below meth c Φ G nL mc ms (pc + 3) (K)) : jx_KS p l e R s m args below meth c Φ G nL mc ms (pc) (jt_if (fun x => x ≤ 0) (fun x => ¬ x ≤ 0) b C J q K) := by
  intro H locs cells slots ls lv st bc bs w hS hH hl hc hs h
  unfold jt_if at h
  split at h
  · exact lv_if_le X.1 X.2.1 d ht (fun z => hj _ _ _ _ _ _ _ _ _ _ hS hH hl hc hs (h.1 z)) (fun z => hk _ _ _ _ _ _ _ _ _ _ hS hH hl hc hs (h.2 z))
  · exact h.elim
theorem js_cmpeq (X : jx_X p s m args meth c R G own nm cc nL mc ms) {off : Int} {tgt b : Nat} (ht : (pc : Int) + off = (tgt : Int)) (hj : jx_KS p l e R s m args below meth c Φ G nL mc ms (tgt) (J b)) (d : decode cc pc = .ok (.if_icmp .eq off, 3)) (hk : jx_KS p l e R s m args below meth c Φ G nL mc ms (pc + 3) (K)) : jx_KS p l e R s m args below meth c Φ G nL mc ms (pc) (jt_cmp (fun x y => x = y) (fun x y => ¬ x = y) b C J q K) := by
  intro H locs cells slots ls lv st bc bs w hS hH hl hc hs h
  unfold jt_cmp at h
  split at h
  · exact lv_icmp_eq X.1 X.2.1 d ht (fun z => hj _ _ _ _ _ _ _ _ _ _ hS hH hl hc hs (h.1 z)) (fun z => hk _ _ _ _ _ _ _ _ _ _ hS hH hl hc hs (h.2 z))
  · exact h.elim
theorem js_cmpne (X : jx_X p s m args meth c R G own nm cc nL mc ms) {off : Int} {tgt b : Nat} (ht : (pc : Int) + off = (tgt : Int)) (hj : jx_KS p l e R s m args below meth c Φ G nL mc ms (tgt) (J b)) (d : decode cc pc = .ok (.if_icmp .ne off, 3)) (hk : jx_KS p l e R s m args below meth c Φ G nL mc ms (pc + 3) (K)) : jx_KS p l e R s m args below meth c Φ G nL mc ms (pc) (jt_cmp (fun x y => ¬ x = y) (fun x y => x = y) b C J q K) := by
  intro H locs cells slots ls lv st bc bs w hS hH hl hc hs h
  unfold jt_cmp at h
  split at h
  · exact lv_icmp_ne X.1 X.2.1 d ht (fun z => hj _ _ _ _ _ _ _ _ _ _ hS hH hl hc hs (h.1 z)) (fun z => hk _ _ _ _ _ _ _ _ _ _ hS hH hl hc hs (h.2 z))
  · exact h.elim
theorem js_cmplt (X : jx_X p s m args meth c R G own nm cc nL mc ms) {off : Int} {tgt b : Nat} (ht : (pc : Int) + off = (tgt : Int)) (hj : jx_KS p l e R s m args below meth c Φ G nL mc ms (tgt) (J b)) (d : decode cc pc = .ok (.if_icmp .lt off, 3)) (hk : jx_KS p l e R s m args below meth c Φ G nL mc ms (pc + 3) (K)) : jx_KS p l e R s m args below meth c Φ G nL mc ms (pc) (jt_cmp (fun x y => x < y) (fun x y => ¬ x < y) b C J q K) := by
  intro H locs cells slots ls lv st bc bs w hS hH hl hc hs h
  unfold jt_cmp at h
  split at h
  · exact lv_icmp_lt X.1 X.2.1 d ht (fun z => hj _ _ _ _ _ _ _ _ _ _ hS hH hl hc hs (h.1 z)) (fun z => hk _ _ _ _ _ _ _ _ _ _ hS hH hl hc hs (h.2 z))
  · exact h.elim
theorem js_cmpge (X : jx_X p s m args meth c R G own nm cc nL mc ms) {off : Int} {tgt b : Nat} (ht : (pc : Int) + off = (tgt : Int)) (hj : jx_KS p l e R s m args below meth c Φ G nL mc ms (tgt) (J b)) (d : decode cc pc = .ok (.if_icmp .ge off, 3)) (hk : jx_KS p l e R s m args below meth c Φ G nL mc ms (pc + 3) (K)) : jx_KS p l e R s m args below meth c Φ G nL mc ms (pc) (jt_cmp (fun x y => y ≤ x) (fun x y => ¬ y ≤ x) b C J q K) := by
  intro H locs cells slots ls lv st bc bs w hS hH hl hc hs h
  unfold jt_cmp at h
  split at h
  · exact lv_icmp_ge X.1 X.2.1 d ht (fun z => hj _ _ _ _ _ _ _ _ _ _ hS hH hl hc hs (h.1 z)) (fun z => hk _ _ _ _ _ _ _ _ _ _ hS hH hl hc hs (h.2 z))
  · exact h.elim
theorem js_cmpgt (X : jx_X p s m args meth c R G own nm cc nL mc ms) {off : Int} {tgt b : Nat} (ht : (pc : Int) + off = (tgt : Int)) (hj : jx_KS p l e R s m args below meth c Φ G nL mc ms (tgt) (J b)) (d : decode cc pc = .ok (.if_icmp .gt off, 3)) (hk : jx_KS p l e R s m args below meth c Φ G nL mc ms (pc + 3) (K)) : jx_KS p l e R s m args below meth c Φ G nL mc ms (pc) (jt_cmp (fun x y => y < x) (fun x y => ¬ y < x) b C J q K) := by
  intro H locs cells slots ls lv st bc bs w hS hH hl hc hs h
  unfold jt_cmp at h
  split at h
  · exact lv_icmp_gt X.1 X.2.1 d ht (fun z => hj _ _ _ _ _ _ _ _ _ _ hS hH hl hc hs (h.1 z)) (fun z => hk _ _ _ _ _ _ _ _ _ _ hS hH hl hc hs (h.2 z))
  · exact h.elim
theorem js_cmple (X : jx_X p s m args meth c R G own nm cc nL mc ms) {off : Int} {tgt b : Nat} (ht : (pc : Int) + off = (tgt : Int)) (hj : jx_KS p l e R s m args below meth c Φ G nL mc ms (tgt) (J b)) (d : decode cc pc = .ok (.if_icmp .le off, 3)) (hk : jx_KS p l e R s m args below meth c Φ G nL mc ms (pc + 3) (K)) : jx_KS p l e R s m args below meth c Φ G nL mc ms (pc) (jt_cmp (fun x y => x ≤ y) (fun x y => ¬ x ≤ y) b C J q K) := by
  intro H locs cells slots ls lv st bc bs w hS hH hl hc hs h
  unfold jt_cmp at h
  split at h
  · exact lv_icmp_le X.1 X.2.1 d ht (fun z => hj _ _ _ _ _ _ _ _ _ _ hS hH hl hc hs (h.1 z)) (fun z => hk _ _ _ _ _ _ _ _ _ _ hS hH hl hc hs (h.2 z))
  · exact h.elim
theorem js_goto (X : jx_X p s m args meth c R G own nm cc nL mc ms) {off : Int} {tgt b : Nat} (ht : (pc : Int) + off = (tgt : Int)) (hj : jx_KS p l e R s m args below meth c Φ G nL mc ms (tgt) (J b)) (d : decode cc pc = .ok (.goto off, 3)) : jx_KS p l e R s m args below meth c Φ G nL mc ms (pc) (jt_go b C J q K) := fun H locs cells slots ls lv st bc bs w hS hH hl hc hs h => lv_goto X.1 X.2.1 d ht (hj _ _ _ _ _ _ _ _ _ _ hS hH hl hc hs h)
theorem js_fall {b : Nat} (hj : jx_KS p l e R s m args below meth c Φ G nL mc ms (pc) (J b)) : jx_KS p l e R s m args below meth c Φ G nL mc ms (pc) (jt_go b C J q K) := hj
theorem js_gfi (X : jx_X p s m args meth c R G own nm cc nL mc ms) {ci i index N : Nat} {D : String} {T : u_T} (hcl : vwCl[ci]? = some (D, T, N)) (hin : ∀ w ∈ u_ws D T N, w ∈ jx_wl) (hi : i < N) (hw : Cond.fieldLink own index (T i).1 (T i).2.1 (T i).2.2.1 ∈ jx_wl) (d : decode cc pc = .ok (.getfield index, 3)) (hk : jx_KS p l e R s m args below meth c Φ G nL mc ms (pc + 3) (K)) : jx_KS p l e R s m args below meth c Φ G nL mc ms (pc) (jt_gfi ci i C J q K) := by
  intro H locs cells slots ls lv st bc bs w hS hH hl hc hs h
  unfold jt_gfi at h
  split at h
  · obtain ⟨fs, x, ho, hf, h⟩ := h; exact va_get X.1 X.2.1 X.2.2.2.2.1 hin X.2.2.2.1 X.2.2.2.2.2.2.1.1 (hH.one ho rfl) 0 rfl hcl i hi (X.2.2.2.2.1 _ hw) (fun _ z => z) hf d (hk _ _ _ _ _ _ _ _ _ _ hS hH hl hc hs h)
  · exact h.elim
theorem js_gfl (X : jx_X p s m args meth c R G own nm cc nL mc ms) {ci i index N : Nat} {D : String} {T : u_T} (hcl : vwCl[ci]? = some (D, T, N)) (hin : ∀ w ∈ u_ws D T N, w ∈ jx_wl) (hi : i < N) (hw : Cond.fieldLink own index (T i).1 (T i).2.1 (T i).2.2.1 ∈ jx_wl) (d : decode cc pc = .ok (.getfield index, 3)) (hk : jx_KS p l e R s m args below meth c Φ G nL mc ms (pc + 3) (K)) : jx_KS p l e R s m args below meth c Φ G nL mc ms (pc) (jt_gfl ci i C J q K) := by
  intro H locs cells slots ls lv st bc bs w hS hH hl hc hs h
  unfold jt_gfl at h
  split at h
  · obtain ⟨fs, x, ho, hf, h⟩ := h; exact va_get X.1 X.2.1 X.2.2.2.2.1 hin X.2.2.2.1 X.2.2.2.2.2.2.1.1 (hH.one ho rfl) 0 rfl hcl i hi (X.2.2.2.2.1 _ hw) (fun _ z => z) hf d (hk _ _ _ _ _ _ _ _ _ _ hS hH hl hc hs h)
  · exact h.elim
theorem js_gfr (X : jx_X p s m args meth c R G own nm cc nL mc ms) {ci i index N : Nat} {D : String} {T : u_T} (hcl : vwCl[ci]? = some (D, T, N)) (hin : ∀ w ∈ u_ws D T N, w ∈ jx_wl) (hi : i < N) (hw : Cond.fieldLink own index (T i).1 (T i).2.1 (T i).2.2.1 ∈ jx_wl) (d : decode cc pc = .ok (.getfield index, 3)) (hk : jx_KS p l e R s m args below meth c Φ G nL mc ms (pc + 3) (K)) : jx_KS p l e R s m args below meth c Φ G nL mc ms (pc) (jt_gfr ci i C J q K) := by
  intro H locs cells slots ls lv st bc bs w hS hH hl hc hs h
  unfold jt_gfr at h
  split at h
  · obtain ⟨fs, x, ho, hf, h⟩ := h; exact va_get X.1 X.2.1 X.2.2.2.2.1 hin X.2.2.2.1 X.2.2.2.2.2.2.1.1 (hH.one ho rfl) 0 rfl hcl i hi (X.2.2.2.2.1 _ hw) (fun _ z => z) hf d (hk _ _ _ _ _ _ _ _ _ _ hS hH hl hc hs h)
  · exact h.elim
theorem js_iald (X : jx_X p s m args meth c R G own nm cc nL mc ms)  (d : decode cc pc = .ok (.iaload, 1)) (hk : jx_KS p l e R s m args below meth c Φ G nL mc ms (pc + 1) (K)) : jx_KS p l e R s m args below meth c Φ G nL mc ms (pc) (jt_iald C J q K) := by
  intro H locs cells slots ls lv st bc bs w hS hH hl hc hs h
  unfold jt_iald at h
  split at h
  · obtain ⟨n, f, ho, hi, h⟩ := h; exact va_iald X.1 X.2.1 X.2.2.2.2.2.2.1.1 (hH.one ho rfl) 0 0 rfl rfl hi d (hk _ _ _ _ _ _ _ _ _ _ hS hH hl hc hs h)
  · exact h.elim
theorem js_bald (X : jx_X p s m args meth c R G own nm cc nL mc ms)  (d : decode cc pc = .ok (.baload, 1)) (hk : jx_KS p l e R s m args below meth c Φ G nL mc ms (pc + 1) (K)) : jx_KS p l e R s m args below meth c Φ G nL mc ms (pc) (jt_bald C J q K) := by
  intro H locs cells slots ls lv st bc bs w hS hH hl hc hs h
  unfold jt_bald at h
  split at h
  · obtain ⟨n, f, ho, hi, h⟩ := h; exact va_bald X.1 X.2.1 X.2.2.2.2.2.2.1.1 (hH.one ho rfl) 0 1 rfl rfl hi d (hk _ _ _ _ _ _ _ _ _ _ hS hH hl hc hs h)
  · exact h.elim
theorem jx_ro_at {w : jx_W} {H : Heap} {locs : List Loc} {a n : Nat} {f : Nat → Int32} (hF : jx_F G s) (hH : jx_H G s w H) (hS : va_S (jx_A G) s.heap H locs) (ho : jx_ro w a n f) : va_T .int a n (fun j => .int (f j)) (jx_A G) s s.heap := by
  refine (hH.2.2.1 a n f ho).kept (fun q _ hq => ?_)
  have h0 : q < s.heap.size := Nat.lt_of_lt_of_le (Nat.not_le.mp hq) hF.2.1
  exact (hS.2.1 q h0 hq).symm
theorem js_rald (X : jx_X p s m args meth c R G own nm cc nL mc ms)  (d : decode cc pc = .ok (.iaload, 1)) (hk : jx_KS p l e R s m args below meth c Φ G nL mc ms (pc + 1) (K)) : jx_KS p l e R s m args below meth c Φ G nL mc ms (pc) (jt_rald C J q K) := by
  intro H locs cells slots ls lv st bc bs w hS hH hl hc hs h
  unfold jt_rald at h
  split at h
  · obtain ⟨n, f, ho, hi, h⟩ := h; exact va_ti X.1 X.2.1 (jx_ro_at X.2.2.2.2.2.2.1 hH hS ho) hS hi rfl d (hk _ _ _ _ _ _ _ _ _ _ hS hH hl hc hs h)
  · exact h.elim
theorem js_rlen (X : jx_X p s m args meth c R G own nm cc nL mc ms)  (d : decode cc pc = .ok (.arraylength, 1)) (hk : jx_KS p l e R s m args below meth c Φ G nL mc ms (pc + 1) (K)) : jx_KS p l e R s m args below meth c Φ G nL mc ms (pc) (jt_rlen C J q K) := by
  intro H locs cells slots ls lv st bc bs w hS hH hl hc hs h
  unfold jt_rlen at h
  split at h
  · obtain ⟨n, f, ho, h⟩ := h; exact va_tlen X.1 X.2.1 (jx_ro_at X.2.2.2.2.2.2.1 hH hS ho) hS rfl d (hk _ _ _ _ _ _ _ _ _ _ hS hH hl hc hs h)
  · exact h.elim
theorem js_ilen (X : jx_X p s m args meth c R G own nm cc nL mc ms)  (d : decode cc pc = .ok (.arraylength, 1)) (hk : jx_KS p l e R s m args below meth c Φ G nL mc ms (pc + 1) (K)) : jx_KS p l e R s m args below meth c Φ G nL mc ms (pc) (jt_ilen C J q K) := by
  intro H locs cells slots ls lv st bc bs w hS hH hl hc hs h
  unfold jt_ilen at h
  split at h
  · obtain ⟨n, f, ho, h⟩ := h; exact va_alen X.1 X.2.1 X.2.2.2.2.2.2.1.1 (hH.one ho rfl) 0 0 rfl rfl rfl d (hk _ _ _ _ _ _ _ _ _ _ hS hH hl hc hs h)
  · exact h.elim
theorem js_blen (X : jx_X p s m args meth c R G own nm cc nL mc ms)  (d : decode cc pc = .ok (.arraylength, 1)) (hk : jx_KS p l e R s m args below meth c Φ G nL mc ms (pc + 1) (K)) : jx_KS p l e R s m args below meth c Φ G nL mc ms (pc) (jt_blen C J q K) := by
  intro H locs cells slots ls lv st bc bs w hS hH hl hc hs h
  unfold jt_blen at h
  split at h
  · obtain ⟨n, f, ho, h⟩ := h; exact va_alen X.1 X.2.1 X.2.2.2.2.2.2.1.1 (hH.one ho rfl) 0 1 rfl rfl rfl d (hk _ _ _ _ _ _ _ _ _ _ hS hH hl hc hs h)
  · exact h.elim
theorem js_aald (X : jx_X p s m args meth c R G own nm cc nL mc ms) {ci t0 : Nat} (ht : (jx_tys G)[t0]? = some (G.2.1 (.object (jx_nm ci)), .object (jx_nm ci))) (d : decode cc pc = .ok (.aaload, 1)) (hk : jx_KS p l e R s m args below meth c Φ G nL mc ms (pc + 1) (K)) : jx_KS p l e R s m args below meth c Φ G nL mc ms (pc) (jt_aald ci C J q K) := by
  intro H locs cells slots ls lv st bc bs w hS hH hl hc hs h
  unfold jt_aald at h
  split at h
  · obtain ⟨n, f, b, ho, hi, hb, h⟩ := h; exact va_aldq X.1 X.2.1 X.2.2.2.2.2.2.1.1 (hH.one ho rfl) 0 t0 rfl ht hi d (by rw [hb]; exact (hk _ _ _ _ _ _ _ _ _ _ hS hH hl hc hs h))
  · exact h.elim
theorem js_gs (X : jx_X p s m args meth c R G own nm cc nL mc ms) {i index : Nat} {Cn n0 d0 : String} (hi : jx_sts[i]? = some (Cn, n0, d0)) (hw : Cond.fieldLink own index Cn n0 d0 ∈ jx_wl) (d : decode cc pc = .ok (.getstatic index, 3)) (hk : jx_KS p l e R s m args below meth c Φ G nL mc ms (pc + 3) (K)) : jx_KS p l e R s m args below meth c Φ G nL mc ms (pc) (jt_gs i C J q K) := by
  intro H locs cells slots ls lv st bc bs w hS hH hl hc hs h
  unfold jt_gs at h
  rw [hH.2.1] at h
  exact va_gets X.1 X.2.1 (X.2.2.2.2.2.2.1.2.2.1 i _ hi) hS X.2.2.2.1 (X.2.2.2.2.1 _ hw) (fun _ z => z) d (hk _ _ _ _ _ _ _ _ _ _ hS hH hl hc hs h)
theorem js_oi (X : jx_X p s m args meth c R G own nm cc nL mc ms) {idx : Nat} (h1 : Cond.methodLink own idx Lib.objectInit ∈ jx_wl) (h2 : Cond.instanceMethod Lib.objectInit ∈ jx_wl) (h3 : Cond.code Lib.objectInit ⟨#[0xb1]⟩ 1 none ∈ jx_wl) (hfr : 1 ≤ R.frames) (hlo : 12 ≤ R.locals) (d : decode cc pc = .ok (.invokespecial idx, 3)) (hk : jx_KS p l e R s m args below meth c Φ G nL mc ms (pc + 3) (K)) : jx_KS p l e R s m args below meth c Φ G nL mc ms (pc) (jt_oi C J q K) := by
  intro H locs cells slots ls lv st bc bs w hS hH hl hc hs h
  unfold jt_oi at h
  split at h
  · exact W.objInit X.1 X.2.1 X.2.2.2.1 (X.2.2.2.2.1 _ h1) (X.2.2.2.2.1 _ h2) (X.2.2.2.2.1 _ h3) rfl (hl.1.trans X.2.2.1.symm) rfl d hfr (by show 2 * 0 + 0 + 12 ≤ _; omega) (hk _ _ _ _ _ _ _ _ _ _ hS hH hl hc hs h)
  · exact h.elim
end JXR
end
section
section JXW
variable {p : Program} {l : Launch} {e : Env} {R : Room} {s : State} {m : MethodId} {args : Array Value} {below : List Frame} {meth : Method} {c : Code} {Φ : State → Prop} {G : jx_G} {own nm : String} {cc : ByteArray} {nL mc ms pc : Nat} {C : jx_C} {J : jx_J} {q : jx_Q} {K : jx_K} {H : Heap} {locs : List Loc} {cells slots : Nat} {ls : Array Slot} {r : List Value} {w : jx_W}
theorem jx_putW (X : jx_X p s m args meth c R G own nm cc nL mc ms) {ci i index N a : Nat} {D : String} {T : u_T} (hcl : vwCl[ci]? = some (D, T, N)) (hin : ∀ w ∈ u_ws D T N, w ∈ jx_wl) (ty0 : Nat → FieldType) (hty : ∀ k, k < N → parseFieldDescriptor (T k).2.2.1 = some (ty0 k)) (hnm : ∀ a, a < N → ∀ b, b < N → a ≠ b → (T a).2.1 ≠ (T b).2.1) (hi : i < N) (hw : Cond.fieldLink own index (T i).1 (T i).2.1 (T i).2.2.1 ∈ jx_wl) (hfin : (T i).2.2.2 = false) {ty : FieldType} {v : Value} (hd : parseFieldDescriptor (T i).2.2.1 = some ty) (hn : narrow ty v = v) (hfit : fits ty v = true) {fs : List Value} (ho : jx_ob w a ci fs) (hlen : i < fs.length) (d : decode cc pc = .ok (.putfield index, 3)) (hS : va_S (jx_A G) s.heap H locs) (hH : jx_H G s w H)
    (kk : ∀ (H1 : Heap) (locs1 : List Loc), va_S (jx_A G) s.heap H1 locs1 → jx_H G s (jx_uob w a ci (fs.set i v)) H1 → W p l e R s m args below meth c H1 locs1 cells slots Φ (F0 m (pc + 3) ls r)) : W p l e R s m args below meth c H locs cells slots Φ (F0 m pc ls (v :: .ref a :: r)) := by
  have hK := X.2.2.2.2.2.2.1.1
  have hts := X.2.2.2.2.1
  have hap := va_apart (own := own) hts hin ty0 hty hnm hK hcl
  obtain ⟨hA, r0, h1, cell, q1, q2, q3, q4⟩ := hH.2.2.2 a _ ho rfl
  have hr : r0 = (D, T, N) := Option.some.inj (h1.symm.trans hcl)
  subst hr
  obtain ⟨hSl, hfc, kC, hkC, hkind⟩ := hK.1 ci _ hcl
  obtain ⟨cf, kf, fi, f, hi', hsl⟩ := hSl i hi
  have hlay := hts _ (hin _ (u_in_lay hi))
  unfold u_lay at hlay
  rw [if_neg (by rw [hfin]; decide)] at hlay
  have hst := (u_facts hfc hkC (u_lays hts hin hi) hi').1
  have h6 := u_store hfc hkC hkind hlay hi' hd hn hfit
  refine W.putK X.1 X.2.1 (f := f) ⟨X.2.2.2.1, hts _ hw, ⟨_, _, _, hi'⟩, hst⟩ (by rw [q2]; exact h6) q1 q3 (by rw [hsl]; exact k2_hasslot (q4 i hi)) rfl rfl d fun H' e1 e2 e3 => ?_
  rw [hsl] at e1 ⊢
  exact kk H' _ (hS.put e2 e3 hA) (hH.put hA rfl e2 e3 ⟨_, hcl, t_OB.to (V := updV (vp_V fs) i v) ⟨_, e1, q2, q3, t_set q4 hap hi v⟩ (fun j _ => vp_updV_set hlen v j)⟩)
theorem jx_putFW (X : jx_X p s m args meth c R G own nm cc nL mc ms) {ci i index N a : Nat} {D : String} {T : u_T} (hcl : vwCl[ci]? = some (D, T, N)) (hin : ∀ w ∈ u_ws D T N, w ∈ jx_wl) (ty0 : Nat → FieldType) (hty : ∀ k, k < N → parseFieldDescriptor (T k).2.2.1 = some (ty0 k)) (hnm : ∀ a, a < N → ∀ b, b < N → a ≠ b → (T a).2.1 ≠ (T b).2.1) (hi : i < N) (hw : Cond.fieldLink own index (T i).1 (T i).2.1 (T i).2.2.1 ∈ jx_wl) (hfin : (T i).2.2.2 = true) (hini : meth.name = "<init>") (hdecl : (T i).1 = own) {ty : FieldType} {v : Value} (hd : parseFieldDescriptor (T i).2.2.1 = some ty) (hn : narrow ty v = v) (hfit : fits ty v = true) {fs : List Value} (ho : jx_ob w a ci fs) (hlen : i < fs.length) (d : decode cc pc = .ok (.putfield index, 3)) (hS : va_S (jx_A G) s.heap H locs) (hH : jx_H G s w H)
    (kk : ∀ (H1 : Heap) (locs1 : List Loc), va_S (jx_A G) s.heap H1 locs1 → jx_H G s (jx_uob w a ci (fs.set i v)) H1 → W p l e R s m args below meth c H1 locs1 cells slots Φ (F0 m (pc + 3) ls r)) : W p l e R s m args below meth c H locs cells slots Φ (F0 m pc ls (v :: .ref a :: r)) := by
  have hK := X.2.2.2.2.2.2.1.1
  have hts := X.2.2.2.2.1
  have hap := va_apart (own := own) hts hin ty0 hty hnm hK hcl
  obtain ⟨hA, r0, h1, cell, q1, q2, q3, q4⟩ := hH.2.2.2 a _ ho rfl
  have hr : r0 = (D, T, N) := Option.some.inj (h1.symm.trans hcl)
  subst hr
  obtain ⟨hSl, hfc, kC, hkC, hkind⟩ := hK.1 ci _ hcl
  obtain ⟨cf, kf, fi, f, hi', hsl⟩ := hSl i hi
  have hlay := hts _ (hin _ (u_in_lay hi))
  unfold u_lay at hlay
  rw [if_pos hfin] at hlay
  have hst := (u_facts hfc hkC (u_lays hts hin hi) hi').1
  have hcf : m.cls = cf := by
    obtain ⟨_, _, c', _, _, _, -, -, hf', -, -, -, hown2, -⟩ := Cond.laysFinal_spec hlay
    have e1 : c' = cf := by have := hi'.symm.trans hf'; simp at this; exact this.1.symm
    rw [hdecl] at hown2
    rw [← e1]; exact Option.some.inj (X.2.2.2.1.symm.trans hown2)
  have h6 := u_fits hfc hkC hkind (Or.inr hlay) hi' hd hn hfit
  refine W.putFinK X.1 X.2.1 X.2.2.2.1 (hts _ hw) hi' hst hcf hini (by rw [q2]; exact h6) q1 q3 (by rw [hsl]; exact k2_hasslot (q4 i hi)) rfl rfl d fun H' e1 e2 e3 => ?_
  rw [hsl] at e1 ⊢
  exact kk H' _ (hS.put e2 e3 hA) (hH.put hA rfl e2 e3 ⟨_, hcl, t_OB.to (V := updV (vp_V fs) i v) ⟨_, e1, q2, q3, t_set q4 hap hi v⟩ (fun j _ => vp_updV_set hlen v j)⟩)
end JXW
section JXR
variable {p : Program} {l : Launch} {e : Env} {R : Room} {s : State} {m : MethodId} {args : Array Value} {below : List Frame} {meth : Method} {c : Code} {Φ : State → Prop} {G : jx_G} {own nm : String} {cc : ByteArray} {nL mc ms pc : Nat} {C : jx_C} {J : jx_J} {q : jx_Q} {K : jx_K}
theorem js_pfi (X : jx_X p s m args meth c R G own nm cc nL mc ms) {ci i index N : Nat} {D : String} {T : u_T} (hcl : vwCl[ci]? = some (D, T, N)) (hin : ∀ w ∈ u_ws D T N, w ∈ jx_wl) (ty0 : Nat → FieldType) (hty : ∀ k, k < N → parseFieldDescriptor (T k).2.2.1 = some (ty0 k)) (hnm : ∀ a, a < N → ∀ b, b < N → a ≠ b → (T a).2.1 ≠ (T b).2.1) (hi : i < N) (hw : Cond.fieldLink own index (T i).1 (T i).2.1 (T i).2.2.1 ∈ jx_wl) (hfin : (T i).2.2.2 = false) (hd : parseFieldDescriptor (T i).2.2.1 = some .int) (d : decode cc pc = .ok (.putfield index, 3)) (hk : jx_KS p l e R s m args below meth c Φ G nL mc ms (pc + 3) (K)) : jx_KS p l e R s m args below meth c Φ G nL mc ms (pc) (jt_pfi ci i C J q K) := by
  intro H locs cells slots ls lv st bc bs w hS hH hl hc hs h
  unfold jt_pfi at h
  split at h
  · obtain ⟨fs, ho, hlen, h⟩ := h
    exact jx_putW X hcl hin ty0 hty hnm hi hw hfin hd rfl rfl ho hlen d hS hH (fun H1 locs1 hS hH => hk _ _ _ _ _ _ _ _ _ _ hS hH hl hc hs h)
  · exact h.elim
theorem js_pfl (X : jx_X p s m args meth c R G own nm cc nL mc ms) {ci i index N : Nat} {D : String} {T : u_T} (hcl : vwCl[ci]? = some (D, T, N)) (hin : ∀ w ∈ u_ws D T N, w ∈ jx_wl) (ty0 : Nat → FieldType) (hty : ∀ k, k < N → parseFieldDescriptor (T k).2.2.1 = some (ty0 k)) (hnm : ∀ a, a < N → ∀ b, b < N → a ≠ b → (T a).2.1 ≠ (T b).2.1) (hi : i < N) (hw : Cond.fieldLink own index (T i).1 (T i).2.1 (T i).2.2.1 ∈ jx_wl) (hfin : (T i).2.2.2 = false) (hd : parseFieldDescriptor (T i).2.2.1 = some .long) (d : decode cc pc = .ok (.putfield index, 3)) (hk : jx_KS p l e R s m args below meth c Φ G nL mc ms (pc + 3) (K)) : jx_KS p l e R s m args below meth c Φ G nL mc ms (pc) (jt_pfl ci i C J q K) := by
  intro H locs cells slots ls lv st bc bs w hS hH hl hc hs h
  unfold jt_pfl at h
  split at h
  · obtain ⟨fs, ho, hlen, h⟩ := h
    exact jx_putW X hcl hin ty0 hty hnm hi hw hfin hd rfl rfl ho hlen d hS hH (fun H1 locs1 hS hH => hk _ _ _ _ _ _ _ _ _ _ hS hH hl hc hs h)
  · exact h.elim
theorem js_pfz (X : jx_X p s m args meth c R G own nm cc nL mc ms) {ci i index N : Nat} {D : String} {T : u_T} (hcl : vwCl[ci]? = some (D, T, N)) (hin : ∀ w ∈ u_ws D T N, w ∈ jx_wl) (ty0 : Nat → FieldType) (hty : ∀ k, k < N → parseFieldDescriptor (T k).2.2.1 = some (ty0 k)) (hnm : ∀ a, a < N → ∀ b, b < N → a ≠ b → (T a).2.1 ≠ (T b).2.1) (hi : i < N) (hw : Cond.fieldLink own index (T i).1 (T i).2.1 (T i).2.2.1 ∈ jx_wl) (hfin : (T i).2.2.2 = false) (hd : parseFieldDescriptor (T i).2.2.1 = some .boolean) (d : decode cc pc = .ok (.putfield index, 3)) (hk : jx_KS p l e R s m args below meth c Φ G nL mc ms (pc + 3) (K)) : jx_KS p l e R s m args below meth c Φ G nL mc ms (pc) (jt_pfz ci i C J q K) := by
  intro H locs cells slots ls lv st bc bs w hS hH hl hc hs h
  unfold jt_pfz at h
  split at h
  · obtain ⟨fs, ho, hlen, hx, h⟩ := h
    rcases hx with rfl | rfl
    · exact jx_putW X hcl hin ty0 hty hnm hi hw hfin hd (by decide +kernel) (by decide +kernel) ho hlen d hS hH (fun H1 locs1 hS hH => hk _ _ _ _ _ _ _ _ _ _ hS hH hl hc hs h)
    · exact jx_putW X hcl hin ty0 hty hnm hi hw hfin hd (by decide +kernel) (by decide +kernel) ho hlen d hS hH (fun H1 locs1 hS hH => hk _ _ _ _ _ _ _ _ _ _ hS hH hl hc hs h)
  · exact h.elim
theorem js_pfr (X : jx_X p s m args meth c R G own nm cc nL mc ms) {ci i index N : Nat} {D : String} {T : u_T} (hcl : vwCl[ci]? = some (D, T, N)) (hin : ∀ w ∈ u_ws D T N, w ∈ jx_wl) (ty0 : Nat → FieldType) (hty : ∀ k, k < N → parseFieldDescriptor (T k).2.2.1 = some (ty0 k)) (hnm : ∀ a, a < N → ∀ b, b < N → a ≠ b → (T a).2.1 ≠ (T b).2.1) (hi : i < N) (hw : Cond.fieldLink own index (T i).1 (T i).2.1 (T i).2.2.1 ∈ jx_wl) (hfin : (T i).2.2.2 = false) (hd : (∃ n, parseFieldDescriptor (T i).2.2.1 = some (.object n)) ∨ ∃ t, parseFieldDescriptor (T i).2.2.1 = some (.array t)) (d : decode cc pc = .ok (.putfield index, 3)) (hk : jx_KS p l e R s m args below meth c Φ G nL mc ms (pc + 3) (K)) : jx_KS p l e R s m args below meth c Φ G nL mc ms (pc) (jt_pfr ci i C J q K) := by
  intro H locs cells slots ls lv st bc bs w hS hH hl hc hs h
  unfold jt_pfr at h
  split at h
  · obtain ⟨fs, ho, hlen, h⟩ := h
    rcases hd with ⟨nn, hd⟩ | ⟨tt, hd⟩
    · exact jx_putW X hcl hin ty0 hty hnm hi hw hfin hd rfl rfl ho hlen d hS hH (fun H1 locs1 hS hH => hk _ _ _ _ _ _ _ _ _ _ hS hH hl hc hs h)
    · exact jx_putW X hcl hin ty0 hty hnm hi hw hfin hd rfl rfl ho hlen d hS hH (fun H1 locs1 hS hH => hk _ _ _ _ _ _ _ _ _ _ hS hH hl hc hs h)
  · exact h.elim
theorem js_pfFi (X : jx_X p s m args meth c R G own nm cc nL mc ms) {ci i index N : Nat} {D : String} {T : u_T} (hcl : vwCl[ci]? = some (D, T, N)) (hin : ∀ w ∈ u_ws D T N, w ∈ jx_wl) (ty0 : Nat → FieldType) (hty : ∀ k, k < N → parseFieldDescriptor (T k).2.2.1 = some (ty0 k)) (hnm : ∀ a, a < N → ∀ b, b < N → a ≠ b → (T a).2.1 ≠ (T b).2.1) (hi : i < N) (hw : Cond.fieldLink own index (T i).1 (T i).2.1 (T i).2.2.1 ∈ jx_wl) (hfin : (T i).2.2.2 = true) (hini : nm = "<init>") (hdecl : (T i).1 = own) (hd : parseFieldDescriptor (T i).2.2.1 = some .int) (d : decode cc pc = .ok (.putfield index, 3)) (hk : jx_KS p l e R s m args below meth c Φ G nL mc ms (pc + 3) (K)) : jx_KS p l e R s m args below meth c Φ G nL mc ms (pc) (jt_pfi ci i C J q K) := by
  intro H locs cells slots ls lv st bc bs w hS hH hl hc hs h
  unfold jt_pfi at h
  split at h
  · obtain ⟨fs, ho, hlen, h⟩ := h
    exact jx_putFW X hcl hin ty0 hty hnm hi hw hfin (X.2.2.2.2.2.1.trans hini) hdecl hd rfl rfl ho hlen d hS hH (fun H1 locs1 hS hH => hk _ _ _ _ _ _ _ _ _ _ hS hH hl hc hs h)
  · exact h.elim
theorem js_pfFr (X : jx_X p s m args meth c R G own nm cc nL mc ms) {ci i index N : Nat} {D : String} {T : u_T} (hcl : vwCl[ci]? = some (D, T, N)) (hin : ∀ w ∈ u_ws D T N, w ∈ jx_wl) (ty0 : Nat → FieldType) (hty : ∀ k, k < N → parseFieldDescriptor (T k).2.2.1 = some (ty0 k)) (hnm : ∀ a, a < N → ∀ b, b < N → a ≠ b → (T a).2.1 ≠ (T b).2.1) (hi : i < N) (hw : Cond.fieldLink own index (T i).1 (T i).2.1 (T i).2.2.1 ∈ jx_wl) (hfin : (T i).2.2.2 = true) (hini : nm = "<init>") (hdecl : (T i).1 = own) (hd : (∃ n, parseFieldDescriptor (T i).2.2.1 = some (.object n)) ∨ ∃ t, parseFieldDescriptor (T i).2.2.1 = some (.array t)) (d : decode cc pc = .ok (.putfield index, 3)) (hk : jx_KS p l e R s m args below meth c Φ G nL mc ms (pc + 3) (K)) : jx_KS p l e R s m args below meth c Φ G nL mc ms (pc) (jt_pfr ci i C J q K) := by
  intro H locs cells slots ls lv st bc bs w hS hH hl hc hs h
  unfold jt_pfr at h
  split at h
  · obtain ⟨fs, ho, hlen, h⟩ := h
    rcases hd with ⟨nn, hd⟩ | ⟨tt, hd⟩
    · exact jx_putFW X hcl hin ty0 hty hnm hi hw hfin (X.2.2.2.2.2.1.trans hini) hdecl hd rfl rfl ho hlen d hS hH (fun H1 locs1 hS hH => hk _ _ _ _ _ _ _ _ _ _ hS hH hl hc hs h)
    · exact jx_putFW X hcl hin ty0 hty hnm hi hw hfin (X.2.2.2.2.2.1.trans hini) hdecl hd rfl rfl ho hlen d hS hH (fun H1 locs1 hS hH => hk _ _ _ _ _ _ _ _ _ _ hS hH hl hc hs h)
  · exact h.elim
theorem js_iast (X : jx_X p s m args meth c R G own nm cc nL mc ms)  (d : decode cc pc = .ok (.iastore, 1)) (hk : jx_KS p l e R s m args below meth c Φ G nL mc ms (pc + 1) (K)) : jx_KS p l e R s m args below meth c Φ G nL mc ms (pc) (jt_iast C J q K) := by
  intro H locs cells slots ls lv st bc bs w hS hH hl hc hs h
  unfold jt_iast at h
  split at h
  · obtain ⟨n, f, ho, hi, h⟩ := h
    rename_i x i a r
    obtain ⟨hA, hat⟩ := hH.2.2.2 a _ ho rfl
    refine W.iast X.1 X.2.1 hat ((X.2.2.2.2.2.2.1.1.2 0 _ rfl).1 n (fun j => .int (f j))) (fun q => by cases q) (by show ¬ (i < 0 ∨ (arrV _ _ _).slots.size ≤ _); rw [arrV_size]; exact hi) rfl rfl d fun H1 e1 z oq => ?_
    refine hk _ _ _ _ _ _ _ _ _ _ (hS.put z oq hA) (hH.put hA rfl z oq ?_) hl hc hs h
    show H1[a]? = some (vp_cell _ _)
    rw [e1]
    show some ((vp_cell _ _).setSlot _ _) = _
    rw [vp_cell_i, vp_cell_i, arrV_store]
    congr 2
    funext k
    by_cases hq : k = i.toNatClampNeg
    · subst hq
      simp [updV, upd, vp_nar]
      try rfl
    · simp [updV, upd, hq]
  · exact h.elim
theorem js_bast (X : jx_X p s m args meth c R G own nm cc nL mc ms)  (d : decode cc pc = .ok (.bastore, 1)) (hk : jx_KS p l e R s m args below meth c Φ G nL mc ms (pc + 1) (K)) : jx_KS p l e R s m args below meth c Φ G nL mc ms (pc) (jt_bast C J q K) := by
  intro H locs cells slots ls lv st bc bs w hS hH hl hc hs h
  unfold jt_bast at h
  split at h
  · obtain ⟨n, f, ho, hi, h⟩ := h
    rename_i x i a r
    obtain ⟨hA, hat⟩ := hH.2.2.2 a _ ho rfl
    refine W.bast X.1 X.2.1 hat ((X.2.2.2.2.2.2.1.1.2 1 _ rfl).1 n (fun j => .int (f j))) (fun q => by cases q) (by show ¬ (i < 0 ∨ (arrV _ _ _).slots.size ≤ _); rw [arrV_size]; exact hi) rfl rfl d fun H1 e1 z oq => ?_
    refine hk _ _ _ _ _ _ _ _ _ _ (hS.put z oq hA) (hH.put hA rfl z oq ?_) hl hc hs h
    show H1[a]? = some (vp_cell _ _)
    rw [e1]
    show some ((vp_cell _ _).setSlot _ _) = _
    rw [vp_cell_i, vp_cell_i, arrV_store]
    congr 2
    funext k
    by_cases hq : k = i.toNatClampNeg
    · subst hq
      simp [updV, upd, vp_nar]
      try rfl
    · simp [updV, upd, hq]
  · exact h.elim
theorem js_aast (X : jx_X p s m args meth c R G own nm cc nL mc ms) {ci t0 N : Nat} {D : String} {T : u_T} (hcl : vwCl[ci]? = some (D, T, N)) (ht : (jx_tys G)[t0]? = some (G.2.1 (.object (jx_nm ci)), .object (jx_nm ci))) (d : decode cc pc = .ok (.aastore, 1)) (hk : jx_KS p l e R s m args below meth c Φ G nL mc ms (pc + 1) (K)) : jx_KS p l e R s m args below meth c Φ G nL mc ms (pc) (jt_aast ci C J q K) := by
  intro H locs cells slots ls lv st bc bs w hS hH hl hc hs h
  unfold jt_aast at h
  split at h
  · obtain ⟨n, f, vs, ho, hv, hi, h⟩ := h
    rename_i v i a r
    obtain ⟨hA, hat⟩ := hH.2.2.2 a _ ho rfl
    have hlt : i.toNatClampNeg < n := Nat.not_le.mp fun q => hi (Or.inr q)
    have h0 : ¬ i < 0 := fun q => hi (Or.inl q)
    obtain ⟨-, r', hr', cellV, g1, g2, g3, -⟩ := hH.2.2.2 v _ hv rfl
    have hcls := (X.2.2.2.2.2.2.1.1.1 ci _ hcl).2
    obtain ⟨kA, comp, k1, k2, k3, -⟩ := (X.2.2.2.2.2.2.1.1.2 t0 _ ht).2
    have hnmD : jx_nm ci = D := by unfold jx_nm; rw [hcl]
    have hcomp : comp = G.1.1 ci := Option.some.inj (k3.symm.trans (by rw [hnmD]; exact hcls.1))
    subst hcomp
    obtain ⟨kC, hkC, -⟩ := hcls.2
    refine W.aast X.1 X.2.1 hat (fun q h => by cases h) (fun h => by cases h) k1 k2 rfl hkC ⟨h0, by show _ < (arrV _ _ _).slots.size; rw [arrV_size]; exact hlt⟩ g1 (fun q h => by rw [g3] at h; cases h) (by rw [g2]; exact hkC) (by rw [g2]; exact va_assign hcls) rfl rfl d fun H1 e1 z oq => ?_
    refine hk _ _ _ _ _ _ _ _ _ _ (hS.put z oq hA) (hH.put hA rfl z oq ?_) hl hc hs h
    show H1[a]? = some (vp_cell _ _)
    rw [e1]
    rw [vp_cell_q]
    show some ((arrV _ _ _).setSlot _ _) = _
    rw [arrV_store]
    show some (arrV (G.2.1 (.object (jx_nm ci))) n _) = some (arrV (G.2.1 (.object (jx_nm ci))) n (fun j => va_rf (va_up f i.toNatClampNeg (some v) j)))
    congr 2
    funext k
    by_cases hq : k = i.toNatClampNeg
    · subst hq
      simp [updV, va_up, va_rf]
    · simp [updV, va_up, hq]
  · exact h.elim
end JXR
end
section
section JXR
variable {p : Program} {l : Launch} {e : Env} {R : Room} {s : State} {m : MethodId} {args : Array Value} {below : List Frame} {meth : Method} {c : Code} {Φ : State → Prop} {G : jx_G} {own nm : String} {cc : ByteArray} {nL mc ms pc : Nat} {C : jx_C} {J : jx_J} {q : jx_Q} {K : jx_K}
theorem jx_A_in {H : Heap} {locs : List Loc} (hF : jx_F G s) (hS : va_S (jx_A G) s.heap H locs) : jx_A G H.size := Nat.le_trans hF.2.1 hS.1
theorem jx_S_new {H H1 : Heap} {locs : List Loc} (hS : va_S (jx_A G) s.heap H locs) (z : H1.size = H.size + 1) (oq : ∀ q : Nat, q < H.size → H1[q]? = H[q]?) : va_S (jx_A G) s.heap H1 locs := ⟨Nat.le_trans hS.1 (by omega), fun x h1 h2 => (oq x (Nat.lt_of_lt_of_le h1 hS.1)).trans (hS.2.1 x h1 h2), hS.2.2⟩
theorem js_new (X : jx_X p s m args meth c R G own nm cc nL mc ms) {ci index N : Nat} {D : String} {T : u_T} (hcl : vwCl[ci]? = some (D, T, N)) (hin : ∀ w ∈ u_ws D T N, w ∈ jx_wl) (ty : Nat → FieldType) (hty : ∀ k, k < N → parseFieldDescriptor (T k).2.2.1 = some (ty k)) {fs : List Value} (hfs : ∀ j, j < N → defaultValue (ty j) = vp_V fs j) (h1 : Cond.classLink own index D ∈ jx_wl) (h2 : Cond.instantiable D N ∈ jx_wl) (h3 : Cond.initialized D ∈ jx_wl) (d : decode cc pc = .ok (.new index, 3)) (hk : jx_KS p l e R s m args below meth c Φ G nL mc ms (pc + 3) (K)) : jx_KS p l e R s m args below meth c Φ G nL mc ms (pc) (jt_new ci N fs C J q K) := by
  intro H locs cells slots ls lv st bc bs w hS hH hl hc hs h
  obtain ⟨hb1, hb2, h⟩ := h
  have hKn := X.2.2.2.2.2.2.1.1.1 ci _ hcl
  refine W.newcK X.1 X.2.1 X.2.2.2.1 (X.2.2.2.2.1 _ h1) (X.2.2.2.2.1 _ h2) (X.2.2.2.2.1 _ h3) rfl d (by rw [X.2.2.2.2.2.2.2.1]; omega) (by rw [X.2.2.2.2.2.2.2.2]; omega) hKn.2.1 rfl fun H1 kC hkC e1 z1 o1 => ?_
  have hz : H.size = w.1 := hH.1
  rw [← hz] at h
  refine hk _ _ _ _ _ _ _ _ _ _ (jx_S_new hS z1 o1) (hH.new (jx_A_in X.2.2.2.2.2.2.1 hS) rfl z1 o1 ?_) hl (by omega) (by omega) h
  exact ⟨_, hcl, (u_born ty X.2.2.2.2.1 hin hKn hkC e1 hty).to hfs⟩
theorem jx_ofNat {n : Int32} {N : Nat} (h : n = Int32.ofNat N) (hN : N ≤ 100000) : ¬ n < 0 ∧ n.toNatClampNeg = N := by
  subst h
  exact ⟨nI_pos (n := N) (by omega), nI_clamp (n := N) (by omega)⟩
theorem js_newi (X : jx_X p s m args meth c R G own nm cc nL mc ms) (hw : Cond.arrayClass .int ∈ jx_wl) (d : decode cc pc = .ok (.newarray .int, 2)) (hk : jx_KS p l e R s m args below meth c Φ G nL mc ms (pc + 2) (K)) : jx_KS p l e R s m args below meth c Φ G nL mc ms (pc) (jt_newi C J q K) := by
  intro H locs cells slots ls lv st bc bs w hS hH hl hc hs h
  unfold jt_newi at h
  split at h
  · obtain ⟨N, hn, hN, hb1, hb2, h⟩ := h
    obtain ⟨hn0, hnN⟩ := jx_ofNat hn hN
    have hz : H.size = w.1 := hH.1
    refine va_newaK (atype := .int) (N := N) X.1 X.2.1 (X.2.2.2.2.1 _ hw) rfl d rfl hn0 hnN (by show N * _ ≤ _; simp [componentBytes, newarray.typeOf]; omega) (by rw [X.2.2.2.2.2.2.2.1]; omega) (by rw [X.2.2.2.2.2.2.2.2]; omega) rfl fun H1 cA e1 z1 o1 hAr hNm => ?_
    have hcA : cA = G.2.1 .int := by
      have := (X.2.2.2.2.2.2.1.1.2 0 _ rfl).2
      exact Option.some.inj (hNm.symm.trans this)
    rw [← hz] at h
    refine hk _ _ _ _ _ _ _ _ _ _ (jx_S_new hS z1 o1) (hH.new (jx_A_in X.2.2.2.2.2.2.1 hS) rfl z1 o1 ?_) hl (by omega) (by omega) h
    subst hcA
    exact e1
  · exact h.elim
theorem js_newb (X : jx_X p s m args meth c R G own nm cc nL mc ms) (hw : Cond.arrayClass .byte ∈ jx_wl) (d : decode cc pc = .ok (.newarray .byte, 2)) (hk : jx_KS p l e R s m args below meth c Φ G nL mc ms (pc + 2) (K)) : jx_KS p l e R s m args below meth c Φ G nL mc ms (pc) (jt_newb C J q K) := by
  intro H locs cells slots ls lv st bc bs w hS hH hl hc hs h
  unfold jt_newb at h
  split at h
  · obtain ⟨N, hn, hN, hb1, hb2, h⟩ := h
    obtain ⟨hn0, hnN⟩ := jx_ofNat hn hN
    have hz : H.size = w.1 := hH.1
    refine va_newaK (atype := .byte) (N := N) X.1 X.2.1 (X.2.2.2.2.1 _ hw) rfl d rfl hn0 hnN (by show N * _ ≤ _; simp [componentBytes, newarray.typeOf]; omega) (by rw [X.2.2.2.2.2.2.2.1]; omega) (by rw [X.2.2.2.2.2.2.2.2]; omega) rfl fun H1 cA e1 z1 o1 hAr hNm => ?_
    have hcA : cA = G.2.1 .byte := by
      have := (X.2.2.2.2.2.2.1.1.2 1 _ rfl).2
      exact Option.some.inj (hNm.symm.trans this)
    rw [← hz] at h
    refine hk _ _ _ _ _ _ _ _ _ _ (jx_S_new hS z1 o1) (hH.new (jx_A_in X.2.2.2.2.2.2.1 hS) rfl z1 o1 ?_) hl (by omega) (by omega) h
    subst hcA
    exact e1
  · exact h.elim
theorem js_newr (X : jx_X p s m args meth c R G own nm cc nL mc ms) {ci t0 index : Nat} (ht : (jx_tys G)[t0]? = some (G.2.1 (.object (jx_nm ci)), .object (jx_nm ci))) (hAO : va_AO (jx_nm ci) s) (hw : Cond.classLink own index (jx_nm ci) ∈ jx_wl) (d : decode cc pc = .ok (.anewarray index, 3)) (hk : jx_KS p l e R s m args below meth c Φ G nL mc ms (pc + 3) (K)) : jx_KS p l e R s m args below meth c Φ G nL mc ms (pc) (jt_newr ci C J q K) := by
  intro H locs cells slots ls lv st bc bs w hS hH hl hc hs h
  unfold jt_newr at h
  split at h
  · obtain ⟨N, hn, hN, hb1, hb2, h⟩ := h
    obtain ⟨hn0, hnN⟩ := jx_ofNat hn hN
    have hz : H.size = w.1 := hH.1
    rename_i n r
    refine W.anew (C := jx_nm ci) X.1 X.2.1 X.2.2.2.1 (X.2.2.2.2.1 _ hw) (va_AO.use hAO) rfl d rfl hn0 (by rw [hnN]; omega) (by rw [X.2.2.2.2.2.2.2.1]; omega) (by rw [X.2.2.2.2.2.2.2.2, hnN]; omega) fun cA kA comp f1 f2 f3 f4 => ?_
    rw [hnN]
    generalize hH1 : H.push ({ cls := cA, slots := Array.replicate N .null, vm := .none } : Cell) = H1
    have z1 : H1.size = H.size + 1 := by rw [← hH1, Array.size_push]
    have e1 : H1[H.size]? = some (arrV cA N (fun _ => .null)) := by rw [← hH1, Array.getElem?_push_size, ← arrV_new]
    have o1 : ∀ q : Nat, q < H.size → H1[q]? = H[q]? := fun q hq => by rw [← hH1, Array.getElem?_push, if_neg (Nat.ne_of_lt hq)]
    have hcA : cA = G.2.1 (.object (jx_nm ci)) := by
      obtain ⟨-, -, -, -, -, this⟩ := (X.2.2.2.2.2.2.1.1.2 t0 _ ht).2
      exact Option.some.inj (f1.symm.trans this)
    rw [← hz] at h
    refine hk _ _ _ _ _ _ _ _ _ _ (jx_S_new hS z1 o1) (hH.new (jx_A_in X.2.2.2.2.2.2.1 hS) rfl z1 o1 ?_) hl (by omega) (by omega) h
    subst hcA
    show H1[H.size]? = some (vp_cell _ _)
    rw [vp_cell_q]
    exact e1
  · exact h.elim
theorem js_cpy (X : jx_X p s m args meth c R G own nm cc nL mc ms) {ty : FieldType} {t0 index : Nat} (hns : ty ≠ .short) (ht : (jx_tys G)[t0]? = some (G.2.1 ty, ty)) (hprim : refKind ty = false) (w1 : Cond.methodLink own index arraycopyName ∈ jx_wl) (w2 : Cond.native arraycopyName ∈ jx_wl) (w3 : Cond.static arraycopyName ∈ jx_wl) (w4 : Cond.initialized "java/lang/System" ∈ jx_wl) (hfr : 1 ≤ R.frames) (hlo : 18 ≤ R.locals) (d : decode cc pc = .ok (.invokestatic index, 3)) (hk : jx_KS p l e R s m args below meth c Φ G nL mc ms (pc + 3) (K)) : jx_KS p l e R s m args below meth c Φ G nL mc ms (pc) (jt_cpy ty C J q K) := by
  intro H locs cells slots ls lv st bc bs w hS hH hl hc hs h
  unfold jt_cpy at h
  split at h
  · obtain ⟨n0, n1, f, g, ha0, ha1, h1, h2, h3, h4, h5, hfit, h⟩ := h
    rename_i n dp a sp a0
    have ho : ∀ (n : Nat) (f : Nat → Int32), jx_own (.inl (ty, n, .inl f)) = true := fun n f => by cases ty <;> first | rfl | exact absurd rfl hns
    obtain ⟨hA0, hat0⟩ := hH.2.2.2 a0 _ ha0 (ho _ _)
    obtain ⟨hA, hat⟩ := hH.2.2.2 a _ ha1 (ho _ _)
    have nn : ∀ z : Int32, ¬ z < 0 → z.toInt = (z.toNatClampNeg : Int) := by
      intro z hz
      have hz0 : (0 : Int) ≤ z.toInt := by
        have := Int32.not_lt.mp hz
        simpa using Int32.le_iff_toInt_le.mp this
      show z.toInt = ((z.toInt.toNat : Nat) : Int)
      omega
    intro T hT X1
    have hc0 : H[a0]? = some (vp_cell (G.2.1 ty) (n0, .inl f)) := hat0
    have hc1 : H[a]? = some (vp_cell (G.2.1 ty) (n1, .inl g)) := hat
    obtain ⟨-, k0, hk0, cm0, hkk0⟩ := (X.2.2.2.2.2.2.1.1.2 t0 _ ht).1 n0 (fun j => .int (f j))
    obtain ⟨-, k1, hk1, cm1, hkk1⟩ := (X.2.2.2.2.2.2.1.1.2 t0 _ ht).1 n1 (fun j => .int (g j))
    obtain ⟨vm', X', step⟩ := X1.arraycopy X.1 X.2.2.2.1 (X.2.2.2.2.1 _ w1) (X.2.2.2.2.1 _ w2) (X.2.2.2.2.1 _ w3) (X.2.2.2.2.1 _ w4) (src := a0) (dst := a) (cs := vp_cell (G.2.1 ty) (n0, .inl f)) (cd := vp_cell (G.2.1 ty) (n1, .inl g)) (srcPos := sp) (destPos := dp) (n := n) (by rw [hT]; exact hc0) (by rw [hT]; exact hc1)
      (fun _ h => by cases h) (fun _ h => by cases h) (fun h => by cases h) (fun h => by cases h) hk0 hk1 hkk0 hkk1 (by simp [hprim]) h1 h2 h3
      (by rw [nn sp h1, nn n h3]; show ¬ _ > ((arrV (G.2.1 ty) n0 (fun j => .int (f j))).slots.size : Int); rw [arrV_size]; omega)
      (by rw [nn dp h2, nn n h3]; show ¬ _ > ((arrV (G.2.1 ty) n1 (fun j => .int (g j))).slots.size : Int); rw [arrV_size]; omega)
      (fun vm₁ _ i hi => by
        have e : (vp_cell (G.2.1 ty) (n0, .inl f)).slots.getD (sp.toNatClampNeg + i) .null = .int (f (sp.toNatClampNeg + i)) := by
          show (arrV (G.2.1 ty) n0 (fun j => .int (f j))).slots.getD _ _ = _
          rw [Array.getD_eq_getD_getElem?, arrV_read _ _ (by omega)]
          rfl
        refine ⟨?_, ?_⟩
        · rw [e]
          exact hfit i hi
        · rw [e]
          exact trivial)
      (g := F0 m pc ls ([.int n, .int dp, .ref a, .int sp, .ref a0])) rfl (hl.1.trans X.2.2.1.symm) (rest := []) rfl (by rw [X.2.1]; exact d) hfr (by show 2 * 0 + 0 + 18 ≤ _; omega)
    have e1 : copied (vp_cell (G.2.1 ty) (n0, .inl f)) (vp_cell (G.2.1 ty) (n1, .inl g)) sp dp n = vp_cell (G.2.1 ty) (n1, .inl (va_cpy f g sp.toNatClampNeg dp.toNatClampNeg n.toNatClampNeg)) := va_copied (fun z => .int z) (G.2.1 ty) (G.2.1 ty) f g h4
    rw [e1] at X' step
    have hlt : a < H.size := (Array.getElem?_eq_some_iff.mp hc1).1
    have hheap : ((T.setVm vm').setCell a (vp_cell (G.2.1 ty) (n1, .inl (va_cpy f g sp.toNatClampNeg dp.toNatClampNeg n.toNatClampNeg)))).heap = H.setIfInBounds a (vp_cell (G.2.1 ty) (n1, .inl (va_cpy f g sp.toNatClampNeg dp.toNatClampNeg n.toNatClampNeg))) := by rw [← hT]; rfl
    have oq : ∀ q : Nat, q ≠ a → (H.setIfInBounds a (vp_cell (G.2.1 ty) (n1, .inl (va_cpy f g sp.toNatClampNeg dp.toNatClampNeg n.toNatClampNeg))))[q]? = H[q]? := fun q hq => by simp [Array.getElem?_setIfInBounds, Ne.symm hq]
    obtain ⟨t, a1, b1⟩ := hk _ _ _ _ _ _ _ _ _ _ ⟨by simp; exact hS.1, fun q g1 g2 => by
        rw [oq q (fun e => g2 (by rw [e]; exact hA))]
        exact hS.2.1 q g1 g2, fun q hq => by
        rcases List.mem_append.mp hq with h | h
        · exact hS.2.2 q h
        · obtain ⟨z, -, hz⟩ := List.mem_map.mp h
          rw [← hz]
          exact hA⟩ (hH.put hA (ho n1 (va_cpy f g sp.toNatClampNeg dp.toNatClampNeg n.toNatClampNeg)) (by simp) oq (show (H.setIfInBounds a _)[a]? = some _ by simp [Array.getElem?_setIfInBounds, hlt])) hl hc hs h _ hheap X'
    exact ⟨t, step t a1, b1⟩
  · exact h.elim
theorem js_mmin (X : jx_X p s m args meth c R G own nm cc nL mc ms) {index : Nat} (w1 : Cond.methodLink own index Lib.Math.min.name ∈ jx_wl) (w2 : Cond.static Lib.Math.min.name ∈ jx_wl) (w3 : Cond.initialized "java/lang/Math" ∈ jx_wl) (w4 : Cond.code Lib.Math.min.name Lib.Math.min.code 2 (some .int) ∈ jx_wl) (hfr : 1 ≤ R.frames) (hlo : 21 ≤ R.locals) (d : decode cc pc = .ok (.invokestatic index, 3)) (hk : jx_KS p l e R s m args below meth c Φ G nL mc ms (pc + 3) (K)) : jx_KS p l e R s m args below meth c Φ G nL mc ms (pc) (jt_mmin C J q K) := by
  intro H locs cells slots ls lv st bc bs w hS hH hl hc hs h
  unfold jt_mmin at h
  split at h
  · split at h
    · rename_i hb
      have hb := Nat.le_of_ble_eq_true hb
      exact va_mmin X.1 X.2.1 (X.2.2.1.trans hl.1.symm) X.2.2.2.1 (X.2.2.2.2.1 _ w1) (X.2.2.2.2.1 _ w2) (X.2.2.2.2.1 _ w3) (X.2.2.2.2.1 _ w4) hfr (by omega) (by rw [X.2.2.2.2.2.2.2.1]; omega) (by rw [X.2.2.2.2.2.2.2.2]; omega) d (hk _ _ _ _ _ _ _ _ _ _ hS hH hl hc hs h)
    · exact h.elim
  · exact h.elim
theorem js_mmax (X : jx_X p s m args meth c R G own nm cc nL mc ms) {index : Nat} (w1 : Cond.methodLink own index Lib.Math.max.name ∈ jx_wl) (w2 : Cond.static Lib.Math.max.name ∈ jx_wl) (w3 : Cond.initialized "java/lang/Math" ∈ jx_wl) (w4 : Cond.code Lib.Math.max.name Lib.Math.max.code 2 (some .int) ∈ jx_wl) (hfr : 1 ≤ R.frames) (hlo : 21 ≤ R.locals) (d : decode cc pc = .ok (.invokestatic index, 3)) (hk : jx_KS p l e R s m args below meth c Φ G nL mc ms (pc + 3) (K)) : jx_KS p l e R s m args below meth c Φ G nL mc ms (pc) (jt_mmax C J q K) := by
  intro H locs cells slots ls lv st bc bs w hS hH hl hc hs h
  unfold jt_mmax at h
  split at h
  · split at h
    · rename_i hb
      have hb := Nat.le_of_ble_eq_true hb
      exact va_mmax X.1 X.2.1 (X.2.2.1.trans hl.1.symm) X.2.2.2.1 (X.2.2.2.2.1 _ w1) (X.2.2.2.2.1 _ w2) (X.2.2.2.2.1 _ w3) (X.2.2.2.2.1 _ w4) hfr (by omega) (by rw [X.2.2.2.2.2.2.2.1]; omega) (by rw [X.2.2.2.2.2.2.2.2]; omega) d (hk _ _ _ _ _ _ _ _ _ _ hS hH hl hc hs h)
    · exact h.elim
  · exact h.elim
end JXR
end
section
/-! CALLS AND RETURNS of the plain machine -/
def jx_ws (M : jx_Me) : List Cond := .code M.1 M.2.1 M.2.2.1 M.2.2.2.1 :: jx_wl
def jx_rm (M : jx_Me) : Room := { frames := M.2.2.2.2.2.1, cells := M.2.2.2.2.1.1, slots := M.2.2.2.2.1.2, locals := M.2.2.2.2.2.2 }
def jx_Qc (G : jx_G) (K : jx_Q) : Array Value → State → Outcome → State → Prop := fun _ st oc t => (∃ (w : jx_W) (r : Option Value), oc = .returned r ∧ K w r ∧ jx_PW G w t) ∧ va_F (jx_A G) st t
def jx_Met (l : Launch) (G : jx_G) (M : jx_Me) (As : List Value) (w : jx_W) (K : jx_Q) : Prop := Met l M.1 (jx_ws M) (jx_rm M) (va_Pc As (jx_PW G w)) (jx_Qc G K) M.2.2.2.2.1.1 M.2.2.2.2.1.2 (jx_A G)
def jx_CS (l : Launch) (G : jx_G) (Tb : Nat → jx_Me) (C : jx_C) : Prop := ∀ (y : Nat) (As : List Value) (w : jx_W) (K : jx_Q), (lg_sl As).length ≤ (Tb y).2.2.1 → C y As w K → jx_Met l G (Tb y) As w K
/-- what the tables have of a method with n parameters -/
def jx_mok (M : jx_Me) (n : Nat) : Prop := Cond.code M.1 M.2.1 M.2.2.1 M.2.2.2.1 ∈ jx_wl ∧ Cond.initialized M.1.cls ∈ jx_wl ∧ (M.1.cls ≠ "java/lang/invoke/MethodHandle" ∧ M.1.cls ≠ "java/lang/invoke/VarHandle" ∧ (parseMethodDescriptor M.1.desc).map (fun d => d.parameters.length) = some n) ∧ plainName M.1.cls = true
theorem jx_wl_good {M : jx_Me} {n : Nat} (h : jx_mok M n) : GoodIn jx_wl (jx_ws M) := by
  intro w hw
  have hm : w ∈ jx_wl := by
    rcases List.mem_cons.mp hw with h1 | h1
    · rw [h1]; exact h.1
    · exact h1
  exact ⟨hm, good_of_word (List.mem_filter.mp hm).2⟩
section JXC
variable {p : Program} {l : Launch} {e : Env} {R : Room} {s : State} {m : MethodId} {args : Array Value} {below : List Frame} {meth : Method} {c : Code} {Φ : State → Prop} {G : jx_G} {own nm : String} {cc : ByteArray} {nL mc ms pc : Nat} {C : jx_C} {J : jx_J} {q : jx_Q} {K : jx_K}
theorem jx_pre {H : Heap} {locs : List Loc} {w : jx_W} {As : List Value} (hF : jx_F G s) (hS : va_S (jx_A G) s.heap H locs) (hH : jx_H G s w H) : FrameBlind (va_Pc As (jx_PW G w)) ∧ ∀ U : State, U.heap = H → s.WarmedH U.vm → va_Pc As (jx_PW G w) As.toArray U :=
  ⟨fun _ _ _ _ h => ⟨h.1, h.2.calling⟩, fun U hU hW => ⟨rfl, hF.moved hW (by rw [hU]; exact hS.1) (fun a h1 h2 => by rw [hU]; exact hS.2.1 a h1 h2), by rw [hU]; exact hH.moved hW.alike⟩⟩
theorem jx_run {H : Heap} {locs : List Loc} {cells slots mcy msy : Nat} {ls : Array Slot} {st0 rest : List Value} {a : Array Value} {K0 : jx_Q} (hr : va_Run p l e R s m args below meth c H locs cells slots mcy msy (F0 m pc ls st0) rest (jx_Qc G K0 a) (jx_A G)) (hS : va_S (jx_A G) s.heap H locs)
    (kk : ∀ (w : jx_W) (r : Option Value) (H1 : Heap) (locs1 : List Loc), K0 w r → va_S (jx_A G) s.heap H1 locs1 → jx_H G s w H1 → W p l e R s m args below meth c H1 locs1 (cells + mcy) (slots + msy) Φ (F0 m (pc + 3) ls (r.toList ++ rest))) : W p l e R s m args below meth c H locs cells slots Φ (F0 m pc ls st0) := by
  intro T hT X
  obtain ⟨v, st₀, t, T', L, h0, X', hL, e1, e2, ⟨⟨w', r, hv, hk0, hpw⟩, hz, hk⟩, st⟩ := hr T hT X
  cases hv
  rw [h0] at hz hk
  have hal : s.vm.Alike t.vm := by rw [← e2]; exact X'.warmed.alike
  obtain ⟨t2, a1, b1⟩ := kk w' v T'.heap (locs ++ L) hk0 ⟨Nat.le_trans hS.1 (by rw [e1]; exact hz), fun q h1 h2 => by rw [e1, hk q (Nat.lt_of_lt_of_le h1 hS.1) h2]; exact hS.2.1 q h1 h2, fun q hq => (List.mem_append.mp hq).elim (hS.2.2 q) (hL q)⟩ (by rw [e1]; exact hpw.2.moved hal.symm) T' rfl X'
  exact ⟨t2, st t2 a1, b1⟩
theorem jx_ret_ok {k : List Value → jx_W → Prop} {rest : List Value} {w : jx_W} {r : Option Value} : ∀ {rk : Nat}, jx_ret rk k rest w r → k (r.toList ++ rest) w
  | 0, h => by obtain ⟨h1, h2⟩ := h; rw [h1]; exact h2
  | 1, h => by obtain ⟨x, h1, h2⟩ := h; rw [h1]; exact h2
  | 2, h => by obtain ⟨x, h1, h2⟩ := h; rw [h1]; exact h2
  | n + 3, h => by obtain ⟨x, h1, h2⟩ := h; rw [h1]; exact h2
theorem jx_fit_ok {rest As : List Value} {n : Nat} (h : jx_fit rest As n = true) : (rest.map fun v => v.category).sum ≤ 8 ∧ (lg_sl As).length ≤ n := by
  unfold jx_fit at h
  simp only [Bool.and_eq_true] at h
  exact ⟨Nat.le_of_ble_eq_true h.1, Nat.le_of_ble_eq_true h.2⟩
theorem jx_split (st : List Value) (n : Nat) : st = (st.take n).reverse.reverse ++ st.drop n := by rw [List.reverse_reverse, List.take_append_drop]
def jx_room (M : jx_Me) (R : Room) : Prop := M.2.2.2.2.2.1 + 1 ≤ R.frames ∧ 8 + (M.2.2.1 + 11) + M.2.2.2.2.2.2 ≤ R.locals
theorem js_callS (X : jx_X p s m args meth c R G own nm cc nL mc ms) {Tb : Nat → jx_Me} {y na rk index : Nat} (hC : jx_CS l G Tb C) (hm : jx_mok (Tb y) na) (h0 : (Tb y).2.2.2.2.1 = (0, 0)) (hR : jx_room (Tb y) R) (w1 : Cond.methodLink own index (Tb y).1 ∈ jx_wl) (w2 : Cond.static (Tb y).1 ∈ jx_wl) (d : decode cc pc = .ok (.invokestatic index, 3)) (hk : jx_KS p l e R s m args below meth c Φ G nL mc ms (pc + 3) K) : jx_KS p l e R s m args below meth c Φ G nL mc ms pc (jt_call Tb y na rk C J q K) := by
  intro H locs cells slots ls lv st bc bs w hS hH hl hc hs h
  unfold jt_call at h
  split at h
  · rename_i hfit hlen
    obtain ⟨hf1, hf2⟩ := jx_fit_ok hfit
    have hM := hC y _ w _ hf2 h
    unfold jx_Met at hM
    rw [h0] at hM
    have hG := jx_wl_good hm
    have hts := X.2.2.2.2.1
    have cw : CallB R s args own index (Tb y).1 (Tb y).2.1 (Tb y).2.2.1 (Tb y).2.2.2.1 (jx_ws (Tb y)) (jx_rm (Tb y)) 0 0 na := callB_of na hts hG rfl (by unfold jx_rm; rw [h0]) (by unfold jx_rm; rw [h0]) (hts _ hm.2.1) (hts _ w1) hm.2.2.1 hR
    refine jx_run (va_runS (g := F0 m pc ls st) (As := (st.take na).reverse) (rest := st.drop na) ⟨X.1, X.2.1, X.2.2.1, X.2.2.2.1, hts⟩ hM ⟨cw, hts _ w2⟩ (jx_pre X.2.2.2.2.2.2.1 hS hH) rfl (by rw [List.length_reverse]; exact Nat.eq_of_beq_eq_true hlen) hl.1 (jx_split st na) (lv_room hf1) d ⟨by rw [X.2.2.2.2.2.2.2.1]; omega, by rw [X.2.2.2.2.2.2.2.2]; omega⟩) hS (fun w' r H1 locs1 hk0 hS1 hH1 => ?_)
    exact hk _ _ _ _ _ _ _ _ _ _ hS1 hH1 hl hc hs (jx_ret_ok hk0)
  · exact h.elim
theorem js_callSN (X : jx_X p s m args meth c R G own nm cc nL mc ms) {Tb : Nat → jx_Me} {y na rk index : Nat} {host : String} (hC : jx_CS l G Tb C) (hm : jx_mok (Tb y) na) (h0 : (Tb y).2.2.2.2.1 = (0, 0)) (hR : jx_room (Tb y) R) (w1 : (own, index, (Tb y).1, host) ∈ jx_nest) (w2 : Cond.static (Tb y).1 ∈ jx_wl) (d : decode cc pc = .ok (.invokestatic index, 3)) (hk : jx_KS p l e R s m args below meth c Φ G nL mc ms (pc + 3) K) : jx_KS p l e R s m args below meth c Φ G nL mc ms pc (jt_call Tb y na rk C J q K) := by
  intro H locs cells slots ls lv st bc bs w hS hH hl hc hs h
  unfold jt_call at h
  split at h
  · rename_i hfit hlen
    obtain ⟨hf1, hf2⟩ := jx_fit_ok hfit
    have hM := hC y _ w _ hf2 h
    unfold jx_Met at hM
    rw [h0] at hM
    have hG := jx_wl_good hm
    have hts := X.2.2.2.2.1
    have cw : va_CN R s args own index (Tb y).1 host (Tb y).2.1 (Tb y).2.2.1 (Tb y).2.2.2.1 (jx_ws (Tb y)) (jx_rm (Tb y)) 0 0 na := va_cnB na hts hG rfl (by unfold jx_rm; rw [h0]) (by unfold jx_rm; rw [h0]) (X.2.2.2.2.2.2.1.2.2.2.2.2 _ w1) (hts _ hm.2.1) hm.2.2.1 hR
    refine jx_run (va_runSN (g := F0 m pc ls st) (As := (st.take na).reverse) (rest := st.drop na) ⟨X.1, X.2.1, X.2.2.1, X.2.2.2.1, hts⟩ hM ⟨cw, hts _ w2, trivial⟩ (jx_pre X.2.2.2.2.2.2.1 hS hH) rfl (by rw [List.length_reverse]; exact Nat.eq_of_beq_eq_true hlen) hl.1 (jx_split st na) (lv_room hf1) d ⟨by rw [X.2.2.2.2.2.2.2.1]; omega, by rw [X.2.2.2.2.2.2.2.2]; omega⟩) hS (fun w' r H1 locs1 hk0 hS1 hH1 => ?_)
    exact hk _ _ _ _ _ _ _ _ _ _ hS1 hH1 hl hc hs (jx_ret_ok hk0)
  · exact h.elim
theorem jx_splitV {st As : List Value} {na : Nat} {a : Nat} (h : (st.take na).reverse = .ref a :: As) : st = As.reverse ++ .ref a :: st.drop na := by
  have h1 := jx_split st na
  rw [h, List.reverse_cons, List.append_assoc] at h1
  exact h1
theorem js_callV (X : jx_X p s m args meth c R G own nm cc nL mc ms) {Tb : Nat → jx_Me} {y na rk index ci N : Nat} {T : u_T} (hC : jx_CS l G Tb C) (hm : jx_mok (Tb y) na) (h0 : (Tb y).2.2.2.2.1 = (0, 0)) (hR : jx_room (Tb y) R) (hcl : vwCl[ci]? = some ((Tb y).1.cls, T, N)) (w1 : Cond.methodLink own index (Tb y).1 ∈ jx_wl) (w2 : Cond.instanceMethod (Tb y).1 ∈ jx_wl) (w3 : Cond.selects (Tb y).1.cls (Tb y).1 (Tb y).1 ∈ jx_wl) (d : decode cc pc = .ok (.invokevirtual index, 3)) (hk : jx_KS p l e R s m args below meth c Φ G nL mc ms (pc + 3) K) : jx_KS p l e R s m args below meth c Φ G nL mc ms pc (jt_callV Tb ci y (na + 1) rk C J q K) := by
  intro H locs cells slots ls lv st bc bs w hS hH hl hc hs h
  unfold jt_callV at h
  split at h
  · rename_i a As hfit hlen heq
    obtain ⟨⟨fs, hob⟩, h⟩ := h
    obtain ⟨hf1, hf2⟩ := jx_fit_ok hfit
    rw [heq] at hf2
    have hM := hC y _ w _ hf2 h
    unfold jx_Met at hM
    rw [h0] at hM
    have hG := jx_wl_good hm
    have hts := X.2.2.2.2.1
    have hAs : As.length = na := by
      have h1 := congrArg List.length heq
      rw [List.length_reverse, Nat.eq_of_beq_eq_true hlen] at h1
      simp at h1
      omega
    have cw : CallB R s args own index (Tb y).1 (Tb y).2.1 (Tb y).2.2.1 (Tb y).2.2.2.1 (jx_ws (Tb y)) (jx_rm (Tb y)) 0 0 na := callB_of na hts hG rfl (by unfold jx_rm; rw [h0]) (by unfold jx_rm; rw [h0]) (hts _ hm.2.1) (hts _ w1) hm.2.2.1 hR
    have hp := jx_pre (As := .ref a :: As) X.2.2.2.2.2.2.1 hS hH
    refine jx_run (va_runV (g := F0 m pc ls st) (C := (Tb y).1.cls) (b := a) (As := As) (rest := st.drop (na + 1)) ⟨X.1, X.2.1, X.2.2.1, X.2.2.2.1, hts⟩ hM ⟨cw, hts _ w2, hts _ w3⟩ ⟨hp.1, va_recv X.2.2.2.2.2.2.1.1 (hH.one hob rfl) (q0 := 0) hcl rfl, hp.2⟩ rfl hAs hl.1 (jx_splitV heq) (lv_room hf1) d ⟨by rw [X.2.2.2.2.2.2.2.1]; omega, by rw [X.2.2.2.2.2.2.2.2]; omega⟩) hS (fun w' r H1 locs1 hk0 hS1 hH1 => ?_)
    exact hk _ _ _ _ _ _ _ _ _ _ hS1 hH1 hl hc hs (jx_ret_ok hk0)
  · exact h.elim
theorem js_callI (X : jx_X p s m args meth c R G own nm cc nL mc ms) {Tb : Nat → jx_Me} {y na index : Nat} (hC : jx_CS l G Tb C) (hm : jx_mok (Tb y) na) (hrt : (Tb y).2.2.2.1 = none) (hR : jx_room (Tb y) R) (hnm : (Tb y).1.name = "<init>") (w1 : Cond.methodLink own index (Tb y).1 ∈ jx_wl) (w2 : Cond.instanceMethod (Tb y).1 ∈ jx_wl) (d : decode cc pc = .ok (.invokespecial index, 3)) (hk : jx_KS p l e R s m args below meth c Φ G nL mc ms (pc + 3) K) : jx_KS p l e R s m args below meth c Φ G nL mc ms pc (jt_callA Tb y (na + 1) C J q K) := by
  intro H locs cells slots ls lv st bc bs w hS hH hl hc hs h
  unfold jt_callA at h
  split at h
  · rename_i a As hfit hlen heq
    obtain ⟨hb1, hb2, h⟩ := h
    obtain ⟨hf1, hf2⟩ := jx_fit_ok hfit
    rw [heq] at hf2
    have hM := hC y _ w _ hf2 h
    unfold jx_Met at hM
    have hG := jx_wl_good hm
    have hts := X.2.2.2.2.1
    have hAs : As.length = na := by
      have h1 := congrArg List.length heq
      rw [List.length_reverse, Nat.eq_of_beq_eq_true hlen] at h1
      simp at h1
      omega
    have cw : CallB R s args own index (Tb y).1 (Tb y).2.1 (Tb y).2.2.1 (Tb y).2.2.2.1 (jx_ws (Tb y)) (jx_rm (Tb y)) (Tb y).2.2.2.2.1.1 (Tb y).2.2.2.2.1.2 na := callB_of na hts hG rfl rfl rfl (hts _ hm.2.1) (hts _ w1) hm.2.2.1 hR
    rw [hrt] at cw
    refine jx_run (va_runI (g := F0 m pc ls st) (b := a) (As := As) (rest := st.drop (na + 1)) ⟨X.1, X.2.1, X.2.2.1, X.2.2.2.1, hts⟩ hM ⟨cw, hnm, hts _ w2⟩ (jx_pre X.2.2.2.2.2.2.1 hS hH) rfl hAs hl.1 (jx_splitV heq) (lv_room hf1) d ⟨by rw [X.2.2.2.2.2.2.2.1]; omega, by rw [X.2.2.2.2.2.2.2.2]; omega⟩) hS (fun w' r H1 locs1 hk0 hS1 hH1 => ?_)
    obtain ⟨hr, hk0⟩ := hk0
    rw [hr]
    exact hk _ _ _ _ _ _ _ _ _ _ hS1 hH1 hl (by omega) (by omega) hk0
  · exact h.elim
theorem js_callIN (X : jx_X p s m args meth c R G own nm cc nL mc ms) {Tb : Nat → jx_Me} {y na index : Nat} {host : String} (hC : jx_CS l G Tb C) (hm : jx_mok (Tb y) na) (hrt : (Tb y).2.2.2.1 = none) (hR : jx_room (Tb y) R) (hnm : (Tb y).1.name = "<init>") (w1 : (own, index, (Tb y).1, host) ∈ jx_nest) (w2 : Cond.instanceMethod (Tb y).1 ∈ jx_wl) (d : decode cc pc = .ok (.invokespecial index, 3)) (hk : jx_KS p l e R s m args below meth c Φ G nL mc ms (pc + 3) K) : jx_KS p l e R s m args below meth c Φ G nL mc ms pc (jt_callA Tb y (na + 1) C J q K) := by
  intro H locs cells slots ls lv st bc bs w hS hH hl hc hs h
  unfold jt_callA at h
  split at h
  · rename_i a As hfit hlen heq
    obtain ⟨hb1, hb2, h⟩ := h
    obtain ⟨hf1, hf2⟩ := jx_fit_ok hfit
    rw [heq] at hf2
    have hM := hC y _ w _ hf2 h
    unfold jx_Met at hM
    have hG := jx_wl_good hm
    have hts := X.2.2.2.2.1
    have hAs : As.length = na := by
      have h1 := congrArg List.length heq
      rw [List.length_reverse, Nat.eq_of_beq_eq_true hlen] at h1
      simp at h1
      omega
    have cw : va_CN R s args own index (Tb y).1 host (Tb y).2.1 (Tb y).2.2.1 (Tb y).2.2.2.1 (jx_ws (Tb y)) (jx_rm (Tb y)) (Tb y).2.2.2.2.1.1 (Tb y).2.2.2.2.1.2 na := va_cnB na hts hG rfl rfl rfl (X.2.2.2.2.2.2.1.2.2.2.2.2 _ w1) (hts _ hm.2.1) hm.2.2.1 hR
    rw [hrt] at cw
    refine jx_run (va_runIN (g := F0 m pc ls st) (b := a) (As := As) (rest := st.drop (na + 1)) ⟨X.1, X.2.1, X.2.2.1, X.2.2.2.1, hts⟩ hM ⟨cw, hnm, hts _ w2⟩ (jx_pre X.2.2.2.2.2.2.1 hS hH) rfl hAs hl.1 (jx_splitV heq) (lv_room hf1) d ⟨by rw [X.2.2.2.2.2.2.2.1]; omega, by rw [X.2.2.2.2.2.2.2.2]; omega⟩) hS (fun w' r H1 locs1 hk0 hS1 hH1 => ?_)
    obtain ⟨hr, hk0⟩ := hk0
    rw [hr]
    exact hk _ _ _ _ _ _ _ _ _ _ hS1 hH1 hl (by omega) (by omega) hk0
  · exact h.elim
/-- what may be returned at pc -/
def jx_rd (cc : ByteArray) (pc : Nat) (ret : Option FieldType) : Option Value → Prop
  | some (.int x) => decode cc pc = .ok (.ireturn, 1) ∧ (ret = some .int ∨ (ret = some .boolean ∧ (x = 0 ∨ x = 1)))
  | some (.long _) => decode cc pc = .ok (.lreturn, 1) ∧ ret = some .long
  | some (.ref _) => decode cc pc = .ok (.areturn, 1) ∧ ∃ n, ret = some (.object n)
  | none => decode cc pc = .ok (.return_, 1) ∧ ret = none
  | _ => False
def jx_RS (p : Program) (l : Launch) (e : Env) (R : Room) (s : State) (m : MethodId) (args : Array Value) (below : List Frame) (meth : Method) (c : Code) (Φ : State → Prop) (G : jx_G) (mc ms : Nat) (cc : ByteArray) (ret : Option FieldType) (q : jx_Q) : Prop := ∀ (H : Heap) (locs : List Loc) (ls : Array Slot) (pc : Nat) (w : jx_W) (r : Option Value), va_S (jx_A G) s.heap H locs → jx_H G s w H → q w r → jx_rd cc pc ret r → W p l e R s m args below meth c H locs mc ms Φ (F0 m pc ls r.toList)
theorem jx_RS_of (X : jx_X p s m args meth c R G own nm cc nL mc ms) {ret : Option FieldType} (hr : meth.sig.returnType = ret) (hlocks : meth.locks = false) : jx_RS p l e R s m args below meth c (MQ below (jx_Qc G q) args s mc ms (jx_A G)) G mc ms cc ret q := by
  intro H locs ls pc w r hS hH hq hd
  have hQ : ∀ t : State, t.heap = H → s.WarmedH t.vm → jx_Qc G q args s (.returned r) t := fun t ht hW => ⟨⟨w, r, rfl, hq, X.2.2.2.2.2.2.1.moved hW (by rw [ht]; exact hS.1) (fun a h1 h2 => by rw [ht]; exact hS.2.1 a h1 h2), by rw [ht]; exact hH.moved hW.alike⟩, hS.F ht⟩
  match r, hd, hQ with
  | some (.int x), hd, hQ =>
    rcases hd.2 with h1 | ⟨h1, h2⟩
    · exact W.iret X.1 X.2.1 (hr.trans h1) hQ hS.2.2 hd.1 hlocks
    · rcases h2 with h2 | h2
      · subst h2; exact W.zret X.1 X.2.1 (hr.trans h1) (by decide +kernel) hQ hS.2.2 hd.1 hlocks
      · subst h2; exact W.zret X.1 X.2.1 (hr.trans h1) (by decide +kernel) hQ hS.2.2 hd.1 hlocks
  | some (.long x), hd, hQ => exact W.lret X.1 X.2.1 (hr.trans hd.2) hQ hS.2.2 hd.1 hlocks
  | some (.ref x), hd, hQ =>
    obtain ⟨h1, n, h2⟩ := hd
    exact W.aret X.1 X.2.1 (hr.trans h2) (Or.inl ⟨n, rfl⟩) (Or.inr ⟨x, rfl⟩) hQ hS.2.2 h1 hlocks
  | none, hd, hQ => exact W.vret X.1 X.2.1 (hr.trans hd.2) hQ hS.2.2 hd.1 hlocks
  | some .null, hd, _ => exact hd.elim
  | some (.float _), hd, _ => exact hd.elim
  | some (.double _), hd, _ => exact hd.elim
  | some (.retAddr _), hd, _ => exact hd.elim
theorem js_ri {ret : Option FieldType} (hq : jx_RS p l e R s m args below meth c Φ G mc ms cc ret q) (hr : ret = some .int) (d : decode cc pc = .ok (.ireturn, 1)) : jx_KS p l e R s m args below meth c Φ G nL mc ms pc (jt_ri C J q K) := by
  intro H locs cells slots ls lv st bc bs w hS hH hl hc hs h
  unfold jt_ri at h
  split at h
  · exact W.widen (by omega) (by omega) (hq H locs ls pc w (some (.int _)) hS hH h ⟨d, Or.inl hr⟩)
  · exact h.elim
theorem js_rz {ret : Option FieldType} (hq : jx_RS p l e R s m args below meth c Φ G mc ms cc ret q) (hr : ret = some .boolean) (d : decode cc pc = .ok (.ireturn, 1)) : jx_KS p l e R s m args below meth c Φ G nL mc ms pc (jt_rz C J q K) := by
  intro H locs cells slots ls lv st bc bs w hS hH hl hc hs h
  unfold jt_rz at h
  split at h
  · exact W.widen (by omega) (by omega) (hq H locs ls pc w (some (.int _)) hS hH h.2 ⟨d, Or.inr ⟨hr, h.1⟩⟩)
  · exact h.elim
theorem js_rl {ret : Option FieldType} (hq : jx_RS p l e R s m args below meth c Φ G mc ms cc ret q) (hr : ret = some .long) (d : decode cc pc = .ok (.lreturn, 1)) : jx_KS p l e R s m args below meth c Φ G nL mc ms pc (jt_rl C J q K) := by
  intro H locs cells slots ls lv st bc bs w hS hH hl hc hs h
  unfold jt_rl at h
  split at h
  · exact W.widen (by omega) (by omega) (hq H locs ls pc w (some (.long _)) hS hH h ⟨d, hr⟩)
  · exact h.elim
theorem js_rr {ret : Option FieldType} (hq : jx_RS p l e R s m args below meth c Φ G mc ms cc ret q) {n : String} (hr : ret = some (.object n)) (d : decode cc pc = .ok (.areturn, 1)) : jx_KS p l e R s m args below meth c Φ G nL mc ms pc (jt_rr C J q K) := by
  intro H locs cells slots ls lv st bc bs w hS hH hl hc hs h
  unfold jt_rr at h
  split at h
  · exact W.widen (by omega) (by omega) (hq H locs ls pc w (some (.ref _)) hS hH h ⟨d, n, hr⟩)
  · exact h.elim
theorem js_rv {ret : Option FieldType} (hq : jx_RS p l e R s m args below meth c Φ G mc ms cc ret q) (hr : ret = none) (d : decode cc pc = .ok (.return_, 1)) : jx_KS p l e R s m args below meth c Φ G nL mc ms pc (jt_rv C J q K) := by
  intro H locs cells slots ls lv st bc bs w hS hH hl hc hs h
  unfold jt_rv at h
  split at h
  · exact W.widen (by omega) (by omega) (hq H locs ls pc w none hS hH h ⟨d, hr⟩)
  · exact h.elim
theorem js_sw (X : jx_X p s m args meth c R G own nm cc nL mc ms) {dflt lo hi : Int} {offs : Array Int} {len b0 : Nat} {bs0 : List Nat} {tg : Nat → Nat} (hlen : offs.size = bs0.length) (hhi : hi + 1 = lo + bs0.length) (hd0 : (pc : Int) + dflt = (tg b0 : Int)) (ho : ∀ (i b : Nat), bs0[i]? = some b → ∃ off, offs[i]? = some off ∧ (pc : Int) + off = (tg b : Int)) (hj : ∀ b, jx_KS p l e R s m args below meth c Φ G nL mc ms (tg b) (J b)) (d : decode cc pc = .ok (.tableswitch dflt lo hi offs, len)) : jx_KS p l e R s m args below meth c Φ G nL mc ms pc (jt_sw lo b0 bs0 C J q K) := by
  intro H locs cells slots ls lv st bc bs w hS hH hl hc hs h
  unfold jt_sw at h
  split at h
  · rename_i x r
    have key : ∀ (jj : Nat → Prop) (l0 : List Nat) (n : Int), jx_sw x lo b0 jj l0 n → (∀ (i b : Nat), l0[i]? = some b → x.toInt = n + i → jj b) ∧ ((x.toInt < lo ∨ n + l0.length ≤ x.toInt) → jj b0) := by
      intro jj l0
      induction l0 with
      | nil => intro n h; exact ⟨fun i b hb => (by cases hb), fun hx => h (by simpa using hx)⟩
      | cons b t ih =>
        intro n h
        obtain ⟨h1, h2⟩ := h
        obtain ⟨g1, g2⟩ := ih (n + 1) h2
        refine ⟨fun i b' hb hx => ?_, fun hx => g2 (by simp at hx; omega)⟩
        match i, hb with
        | 0, hb => cases hb; exact h1 (by simpa using hx)
        | i + 1, hb => exact g1 i b' hb (by simp at hx; omega)
    obtain ⟨g1, g2⟩ := key _ _ _ h
    by_cases hx : x.toInt < lo ∨ hi < x.toInt
    · exact lv_tableOut X.1 X.2.1 d hx hd0 (hj _ _ _ _ _ _ _ _ _ _ _ hS hH hl hc hs (g2 (by omega)))
    · have hx1 : ¬ x.toInt < lo := fun z => hx (Or.inl z)
      have hx2 : ¬ hi < x.toInt := fun z => hx (Or.inr z)
      have hlt : (x.toInt - lo).toNat < bs0.length := by omega
      obtain ⟨off, ho1, ho2⟩ := ho (x.toInt - lo).toNat bs0[(x.toInt - lo).toNat] (List.getElem?_eq_getElem hlt)
      exact lv_tableIn X.1 X.2.1 d hx1 hx2 ho1 ho2 (hj _ _ _ _ _ _ _ _ _ _ _ hS hH hl hc hs (g1 _ _ (List.getElem?_eq_getElem hlt) (by omega)))
  · exact h.elim
end JXC
end
section
/-! WHICH OP AN INSTRUCTION IS, whether it is linked as its data say, and that this is sound -/
def jx_x (x : List Nat) (i : Nat) : Nat := x.getD i 0
def jx_litL : List Nat → Int64
  | 0 :: n :: _ => Int64.ofNat n
  | 1 :: n :: _ => -(Int64.ofNat n)
  | _ => 0
def jx_gf (x : List Nat) : jx_T := match jx_x x 0 with
  | 0 => jt_gfi (jx_x x 1) (jx_x x 2)
  | 1 => jt_gfl (jx_x x 1) (jx_x x 2)
  | _ => jt_gfr (jx_x x 1) (jx_x x 2)
def jx_pf (x : List Nat) : jx_T := match jx_x x 0 with
  | 0 => jt_pfi (jx_x x 1) (jx_x x 2)
  | 1 => jt_pfl (jx_x x 1) (jx_x x 2)
  | 2 => jt_pfr (jx_x x 1) (jx_x x 2)
  | _ => jt_pfz (jx_x x 1) (jx_x x 2)
def jx_dv : FieldType → Value
  | .int => .int 0
  | .boolean => .int 0
  | .long => .long 0
  | _ => .null
def jx_born (ci : Nat) : List Value := match ci with
  | 0 => [.int 0, .null, .null, .null, .null, .null, .null, .null, .null]
  | 1 => [.int 0, .int 0, .null, .null, .null, .null]
  | 2 => [.int 0, .int 0, .int 0, .int 0, .null, .null, .null, .int 0, .int 0, .int 0, .int 0, .int 0]
  | 3 => [.null, .null, .int 0, .int 0, .int 0, .int 0, .int 0, .int 0, .long 0, .null, .null, .int 0, .int 0, .int 0, .int 0]
  | 4 => [.int 0, .null, .null, .null]
  | 5 => [.null, .null, .null, .null, .int 0, .int 0]
  | 6 => [.null, .null]
  | 7 => [.null, .int 0, .null, .null, .null, .null, .null, .int 0]
  | _ => [.null, .int 0, .null, .int 0, .int 0, .null, .null, .null, .null, .null, .null, .null, .int 0, .int 0, .int 0, .null, .null]
def jx_nf (ci : Nat) : Nat := match vwCl[ci]? with
  | some r => r.2.2
  | none => 0
def jx_al0 (x : List Nat) : jx_T := match jx_x x 0 with
  | 0 => jt_iald
  | _ => jt_rald
def jx_len (x : List Nat) : jx_T := match jx_x x 0 with
  | 0 => jt_ilen
  | 1 => jt_rlen
  | _ => jt_blen
def jx_na (t : ArrayType) : jx_T := match t with
  | .int => jt_newi
  | .byte => jt_newb
  | _ => jt_bad
def jx_ist (Tb : Nat → jx_Me) (x : List Nat) : jx_T := match jx_x x 0 with
  | 0 => jt_call Tb (jx_x x 1) (jx_x x 2) (jx_x x 3)
  | 1 => jt_call Tb (jx_x x 1) (jx_x x 2) (jx_x x 3)
  | 2 => jt_cpy .int
  | 3 => jt_cpy .byte
  | 4 => jt_mmin
  | _ => jt_mmax
def jx_isp (Tb : Nat → jx_Me) (x : List Nat) : jx_T := match jx_x x 0 with
  | 0 => jt_callA Tb (jx_x x 1) (jx_x x 2)
  | 1 => jt_callA Tb (jx_x x 1) (jx_x x 2)
  | _ => jt_oi
def jx_ire (x : List Nat) : jx_T := match jx_x x 0 with
  | 0 => jt_ri
  | _ => jt_rz
def jx_tr (Tb : Nat → jx_Me) (i : jx_I) : jx_T := match i.2.1 with
  | .nop => jt_go (jx_x i.2.2 0)
  | .iconst _ => jt_c (.int (jx_lit i.2.2))
  | .bipush _ => jt_c (.int (jx_lit i.2.2))
  | .sipush _ => jt_c (.int (jx_lit i.2.2))
  | .ldc _ => jt_c (.int (Int32.ofNat (jx_x i.2.2 0)))
  | .ldc_w _ => jt_c (.int (Int32.ofNat (jx_x i.2.2 0)))
  | .ldc2_w _ => jt_c (.long (jx_litL i.2.2))
  | .lconst n => jt_c (.long (Int64.ofNat n))
  | .iload j => jt_ldi j
  | .iload_n j => jt_ldi j
  | .lload j => jt_ldl j
  | .lload_n j => jt_ldl j
  | .aload j => jt_lda j
  | .aload_n j => jt_lda j
  | .istore j => jt_sti j
  | .istore_n j => jt_sti j
  | .lstore j => jt_stl j
  | .lstore_n j => jt_stl j
  | .astore j => jt_sta j
  | .astore_n j => jt_sta j
  | .iinc j _ => jt_inc j (jx_lit i.2.2)
  | .iadd => jt_ii (fun x y => x + y)
  | .isub => jt_ii (fun x y => x - y)
  | .imul => jt_ii (fun x y => x * y)
  | .iand => jt_ii (fun x y => x &&& y)
  | .ior => jt_ii (fun x y => x ||| y)
  | .ixor => jt_ii (fun x y => x ^^^ y)
  | .ishl => jt_ii (fun x y => x <<< (y &&& 31))
  | .ishr => jt_ii (fun x y => x >>> (y &&& 31))
  | .iushr => jt_ii (fun x y => (x.toUInt32 >>> (y.toUInt32 &&& Int32.toUInt32 31)).toInt32)
  | .irem => jt_irem
  | .ladd => jt_ll (fun x y => x + y)
  | .lsub => jt_ll (fun x y => x - y)
  | .lmul => jt_ll (fun x y => x * y)
  | .land => jt_ll (fun x y => x &&& y)
  | .lor => jt_ll (fun x y => x ||| y)
  | .lshl => jt_li (fun x y => x <<< (y.toInt64 &&& 63))
  | .lushr => jt_li (fun x y => (x.toUInt64 >>> (y.toInt64.toUInt64 &&& Int64.toUInt64 63)).toInt64)
  | .lcmp => jt_lcmp
  | .i2l => jt_i2l
  | .l2i => jt_l2i
  | .i2b => jt_i2b
  | .dup => jt_dup
  | .dup2 => jt_dup2
  | .pop => jt_pop
  | .ifCond .eq _ => jt_if (fun x => x = 0) (fun x => ¬ x = 0) (jx_x i.2.2 0)
  | .ifCond .ne _ => jt_if (fun x => ¬ x = 0) (fun x => x = 0) (jx_x i.2.2 0)
  | .ifCond .lt _ => jt_if (fun x => x < 0) (fun x => ¬ x < 0) (jx_x i.2.2 0)
  | .ifCond .ge _ => jt_if (fun x => 0 ≤ x) (fun x => ¬ 0 ≤ x) (jx_x i.2.2 0)
  | .ifCond .gt _ => jt_if (fun x => 0 < x) (fun x => ¬ 0 < x) (jx_x i.2.2 0)
  | .ifCond .le _ => jt_if (fun x => x ≤ 0) (fun x => ¬ x ≤ 0) (jx_x i.2.2 0)
  | .if_icmp .eq _ => jt_cmp (fun x y => x = y) (fun x y => ¬ x = y) (jx_x i.2.2 0)
  | .if_icmp .ne _ => jt_cmp (fun x y => ¬ x = y) (fun x y => x = y) (jx_x i.2.2 0)
  | .if_icmp .lt _ => jt_cmp (fun x y => x < y) (fun x y => ¬ x < y) (jx_x i.2.2 0)
  | .if_icmp .ge _ => jt_cmp (fun x y => y ≤ x) (fun x y => ¬ y ≤ x) (jx_x i.2.2 0)
  | .if_icmp .gt _ => jt_cmp (fun x y => y < x) (fun x y => ¬ y < x) (jx_x i.2.2 0)
  | .if_icmp .le _ => jt_cmp (fun x y => x ≤ y) (fun x y => ¬ x ≤ y) (jx_x i.2.2 0)
  | .goto _ => jt_go (jx_x i.2.2 0)
  | .tableswitch _ lo _ _ => jt_sw lo (jx_x i.2.2 0) i.2.2.tail
  | .getfield _ => jx_gf i.2.2
  | .putfield _ => jx_pf i.2.2
  | .getstatic _ => jt_gs (jx_x i.2.2 0)
  | .iaload => jx_al0 i.2.2
  | .baload => jt_bald
  | .aaload => jt_aald (jx_x i.2.2 0)
  | .iastore => jt_iast
  | .bastore => jt_bast
  | .aastore => jt_aast (jx_x i.2.2 0)
  | .arraylength => jx_len i.2.2
  | .new _ => jt_new (jx_x i.2.2 0) (jx_nf (jx_x i.2.2 0)) (jx_born (jx_x i.2.2 0))
  | .newarray t => jx_na t
  | .anewarray _ => jt_newr (jx_x i.2.2 0)
  | .invokevirtual _ => jt_callV Tb (jx_x i.2.2 1) (jx_x i.2.2 2) (jx_x i.2.2 3) (jx_x i.2.2 4)
  | .invokestatic _ => jx_ist Tb i.2.2
  | .invokespecial _ => jx_isp Tb i.2.2
  | .ireturn => jx_ire i.2.2
  | .lreturn => jt_rl
  | .areturn => jt_rr
  | .return_ => jt_rv
  | _ => jt_bad
/-- a word of the tables by its place -/
def jx_w (j : Nat) (w : Cond) : Bool := decide (lw_tbl[j]? = some w) && goodWord w
theorem jx_w_in {j : Nat} {w : Cond} (h : jx_w j w = true) : w ∈ jx_wl := by
  unfold jx_w at h
  simp only [Bool.and_eq_true, decide_eq_true_eq] at h
  exact List.mem_filter.mpr ⟨List.mem_of_getElem? h.1, h.2⟩
/-- a method of the table: itself, its kind (0 static, 1 virtual, 2 constructor), its parameters, the places of its words -/
abbrev jx_Mt : Type := jx_Me × Nat × Nat × List Nat
def jx_mchk (q : jx_Mt) : Bool := jx_w (jx_x q.2.2.2 0) (.code q.1.1 q.1.2.1 q.1.2.2.1 q.1.2.2.2.1) && jx_w (jx_x q.2.2.2 1) (.initialized q.1.1.cls) && decide (q.1.1.cls ≠ "java/lang/invoke/MethodHandle" ∧ q.1.1.cls ≠ "java/lang/invoke/VarHandle" ∧ (parseMethodDescriptor q.1.1.desc).map (fun d => d.parameters.length) = some q.2.2.1) && plainName q.1.1.cls &&
  (match q.2.1 with
  | 0 => jx_w (jx_x q.2.2.2 2) (.static q.1.1) && decide (q.1.2.2.2.2.1 = (0, 0))
  | 1 => jx_w (jx_x q.2.2.2 2) (.instanceMethod q.1.1) && jx_w (jx_x q.2.2.2 3) (.selects q.1.1.cls q.1.1 q.1.1) && decide (q.1.2.2.2.2.1 = (0, 0))
  | _ => jx_w (jx_x q.2.2.2 2) (.instanceMethod q.1.1) && decide (q.1.1.name = "<init>") && decide (q.1.2.2.2.1 = none))
def jx_roomB (M R : jx_Me) : Bool := Nat.ble (M.2.2.2.2.2.1 + 1) R.2.2.2.2.2.1 && Nat.ble (8 + (M.2.2.1 + 11) + M.2.2.2.2.2.2) R.2.2.2.2.2.2
def jx_refd (d : String) : Bool := match parseFieldDescriptor d with
  | some (.object _) => true
  | some (.array _) => true
  | _ => false
def jx_fld (own : String) (index : Nat) (x : List Nat) (r : vw_C) : Bool := Nat.blt (jx_x x 2) r.2.2 && jx_w (jx_x x 3) (.fieldLink own index (r.2.1 (jx_x x 2)).1 (r.2.1 (jx_x x 2)).2.1 (r.2.1 (jx_x x 2)).2.2.1)
def jx_pfc (x : List Nat) (d : String) : Bool := match jx_x x 0 with
  | 0 => decide (parseFieldDescriptor d = some .int)
  | 1 => decide (parseFieldDescriptor d = some .long)
  | 2 => jx_refd d
  | _ => decide (parseFieldDescriptor d = some .boolean)
def jx_off (pc : Nat) (off : Int) (tgt : Nat) : Bool := decide ((pc : Int) + off = (tgt : Int))
def jx_swc (pc : Nat) (tg : Nat → Nat) : List Int → List Nat → Bool
  | [], [] => true
  | o :: os, b :: bs => jx_off pc o (tg b) && jx_swc pc tg os bs
  | _, _ => false
/-- the place of a class' array type in jx_tys -/
def jx_t0 (ci : Nat) : Nat := match ci with
  | 2 => 2
  | _ => 3
def jx_chk (nM : Nat) (Mt : Nat → jx_Mt) (tg : Nat → Nat) (M : jx_Me) (pc : Nat) (i : jx_I) : Bool := match i.2.1 with
  | .nop => Nat.beq i.1 0 && Nat.beq (tg (jx_x i.2.2 0)) pc
  | _ => decide (decode M.2.1 pc = .ok (i.2.1, i.1)) && match i.2.1 with
    | .iconst n => Nat.beq i.1 1 && decide (Int32.ofInt n = jx_lit i.2.2)
    | .bipush n => Nat.beq i.1 2 && decide ((Int8.ofInt n).toInt32 = jx_lit i.2.2)
    | .sipush n => Nat.beq i.1 3 && decide ((Int16.ofInt n).toInt32 = jx_lit i.2.2)
    | .ldc j => Nat.beq i.1 2 && jx_w (jx_x i.2.2 1) (.constant M.1.cls j (Int32.ofNat (jx_x i.2.2 0)))
    | .ldc_w j => Nat.beq i.1 3 && jx_w (jx_x i.2.2 1) (.constant M.1.cls j (Int32.ofNat (jx_x i.2.2 0)))
    | .ldc2_w j => Nat.beq i.1 3 && jx_w (jx_x i.2.2 2) (.constantLong M.1.cls j (jx_litL i.2.2))
    | .lconst _ => Nat.beq i.1 1
    | .iload _ => Nat.beq i.1 2
    | .lload _ => Nat.beq i.1 2
    | .aload _ => Nat.beq i.1 2
    | .iload_n _ => Nat.beq i.1 1
    | .lload_n _ => Nat.beq i.1 1
    | .aload_n _ => Nat.beq i.1 1
    | .istore j => Nat.beq i.1 2 && Nat.blt j M.2.2.1
    | .lstore j => Nat.beq i.1 2 && Nat.blt (j + 1) M.2.2.1
    | .astore j => Nat.beq i.1 2 && Nat.blt j M.2.2.1
    | .istore_n j => Nat.beq i.1 1 && Nat.blt j M.2.2.1
    | .lstore_n j => Nat.beq i.1 1 && Nat.blt (j + 1) M.2.2.1
    | .astore_n j => Nat.beq i.1 1 && Nat.blt j M.2.2.1
    | .iinc j n => Nat.beq i.1 3 && decide (Int32.ofInt n = jx_lit i.2.2) && Nat.blt j M.2.2.1
    | .iadd => Nat.beq i.1 1
    | .isub => Nat.beq i.1 1
    | .imul => Nat.beq i.1 1
    | .iand => Nat.beq i.1 1
    | .ior => Nat.beq i.1 1
    | .ixor => Nat.beq i.1 1
    | .ishl => Nat.beq i.1 1
    | .ishr => Nat.beq i.1 1
    | .iushr => Nat.beq i.1 1
    | .irem => Nat.beq i.1 1
    | .ladd => Nat.beq i.1 1
    | .lsub => Nat.beq i.1 1
    | .lmul => Nat.beq i.1 1
    | .land => Nat.beq i.1 1
    | .lor => Nat.beq i.1 1
    | .lshl => Nat.beq i.1 1
    | .lushr => Nat.beq i.1 1
    | .lcmp => Nat.beq i.1 1
    | .i2l => Nat.beq i.1 1
    | .l2i => Nat.beq i.1 1
    | .i2b => Nat.beq i.1 1
    | .dup => Nat.beq i.1 1
    | .dup2 => Nat.beq i.1 1
    | .pop => Nat.beq i.1 1
    | .ifCond _ off => Nat.beq i.1 3 && jx_off pc off (tg (jx_x i.2.2 0))
    | .if_icmp _ off => Nat.beq i.1 3 && jx_off pc off (tg (jx_x i.2.2 0))
    | .goto off => Nat.beq i.1 3 && jx_off pc off (tg (jx_x i.2.2 0))
    | .tableswitch dflt lo hi offs => jx_off pc dflt (tg (jx_x i.2.2 0)) && decide (hi + 1 = lo + i.2.2.tail.length) && jx_swc pc tg offs.toList i.2.2.tail
    | .getfield index => Nat.beq i.1 3 && (match vwCl[jx_x i.2.2 1]? with | some r => jx_fld M.1.cls index i.2.2 r | none => false)
    | .putfield index => Nat.beq i.1 3 && (match vwCl[jx_x i.2.2 1]? with | some r => jx_fld M.1.cls index i.2.2 r && jx_pfc i.2.2 (r.2.1 (jx_x i.2.2 2)).2.2.1 && (match (r.2.1 (jx_x i.2.2 2)).2.2.2 with | false => true | true => (Nat.beq (jx_x i.2.2 0) 0 || Nat.beq (jx_x i.2.2 0) 2) && decide (M.1.name = "<init>") && decide ((r.2.1 (jx_x i.2.2 2)).1 = M.1.cls)) | none => false)
    | .getstatic index => Nat.beq i.1 3 && (match jx_sts[jx_x i.2.2 0]? with | some q => jx_w (jx_x i.2.2 1) (.fieldLink M.1.cls index q.1 q.2.1 q.2.2) | none => false)
    | .iaload => Nat.beq i.1 1
    | .baload => Nat.beq i.1 1
    | .aaload => Nat.beq i.1 1 && (Nat.beq (jx_x i.2.2 0) 2 || Nat.beq (jx_x i.2.2 0) 5)
    | .iastore => Nat.beq i.1 1
    | .bastore => Nat.beq i.1 1
    | .aastore => Nat.beq i.1 1 && (Nat.beq (jx_x i.2.2 0) 2 || Nat.beq (jx_x i.2.2 0) 5)
    | .arraylength => Nat.beq i.1 1
    | .new index => Nat.beq i.1 3 && (match vwCl[jx_x i.2.2 0]? with | some r => jx_w (jx_x i.2.2 1) (.classLink M.1.cls index r.1) && jx_w (jx_x i.2.2 2) (.instantiable r.1 r.2.2) && jx_w (jx_x i.2.2 3) (.initialized r.1) | none => false)
    | .newarray .int => Nat.beq i.1 2 && jx_w (jx_x i.2.2 0) (.arrayClass .int)
    | .newarray .byte => Nat.beq i.1 2 && jx_w (jx_x i.2.2 0) (.arrayClass .byte)
    | .anewarray index => Nat.beq i.1 3 && (Nat.beq (jx_x i.2.2 0) 2 || Nat.beq (jx_x i.2.2 0) 5) && jx_w (jx_x i.2.2 1) (.classLink M.1.cls index (jx_nm (jx_x i.2.2 0)))
    | .invokevirtual index => Nat.beq i.1 3 && Nat.beq (Mt (jx_x i.2.2 2)).2.1 1 && Nat.beq ((Mt (jx_x i.2.2 2)).2.2.1 + 1) (jx_x i.2.2 3) && jx_roomB (Mt (jx_x i.2.2 2)).1 M && (match vwCl[jx_x i.2.2 1]? with | some r => decide (r.1 = (Mt (jx_x i.2.2 2)).1.1.cls) | none => false) && jx_w (jx_x i.2.2 5) (.methodLink M.1.cls index (Mt (jx_x i.2.2 2)).1.1) && Nat.blt (jx_x i.2.2 2) nM
    | .invokestatic index => Nat.beq i.1 3 && (match jx_x i.2.2 0 with
      | 0 => Nat.beq (Mt (jx_x i.2.2 1)).2.1 0 && Nat.beq (Mt (jx_x i.2.2 1)).2.2.1 (jx_x i.2.2 2) && jx_roomB (Mt (jx_x i.2.2 1)).1 M && jx_w (jx_x i.2.2 4) (.methodLink M.1.cls index (Mt (jx_x i.2.2 1)).1.1) && Nat.blt (jx_x i.2.2 1) nM
      | 1 => Nat.beq (Mt (jx_x i.2.2 1)).2.1 0 && Nat.beq (Mt (jx_x i.2.2 1)).2.2.1 (jx_x i.2.2 2) && jx_roomB (Mt (jx_x i.2.2 1)).1 M && decide (jx_nest[jx_x i.2.2 4]? = some (M.1.cls, index, (Mt (jx_x i.2.2 1)).1.1, "TornStreams")) && Nat.blt (jx_x i.2.2 1) nM
      | 2 => jx_w (jx_x i.2.2 1) (.methodLink M.1.cls index arraycopyName) && jx_w (jx_x i.2.2 2) (.native arraycopyName) && jx_w (jx_x i.2.2 3) (.static arraycopyName) && jx_w (jx_x i.2.2 4) (.initialized "java/lang/System") && Nat.ble 1 M.2.2.2.2.2.1 && Nat.ble 18 M.2.2.2.2.2.2
      | 3 => jx_w (jx_x i.2.2 1) (.methodLink M.1.cls index arraycopyName) && jx_w (jx_x i.2.2 2) (.native arraycopyName) && jx_w (jx_x i.2.2 3) (.static arraycopyName) && jx_w (jx_x i.2.2 4) (.initialized "java/lang/System") && Nat.ble 1 M.2.2.2.2.2.1 && Nat.ble 18 M.2.2.2.2.2.2
      | 4 => jx_w (jx_x i.2.2 1) (.methodLink M.1.cls index Lib.Math.min.name) && jx_w (jx_x i.2.2 2) (.static Lib.Math.min.name) && jx_w (jx_x i.2.2 3) (.initialized "java/lang/Math") && jx_w (jx_x i.2.2 4) (.code Lib.Math.min.name Lib.Math.min.code 2 (some .int)) && Nat.ble 1 M.2.2.2.2.2.1 && Nat.ble 21 M.2.2.2.2.2.2
      | _ => jx_w (jx_x i.2.2 1) (.methodLink M.1.cls index Lib.Math.max.name) && jx_w (jx_x i.2.2 2) (.static Lib.Math.max.name) && jx_w (jx_x i.2.2 3) (.initialized "java/lang/Math") && jx_w (jx_x i.2.2 4) (.code Lib.Math.max.name Lib.Math.max.code 2 (some .int)) && Nat.ble 1 M.2.2.2.2.2.1 && Nat.ble 21 M.2.2.2.2.2.2)
    | .invokespecial index => Nat.beq i.1 3 && (match jx_x i.2.2 0 with
      | 0 => Nat.beq (Mt (jx_x i.2.2 1)).2.1 2 && Nat.beq ((Mt (jx_x i.2.2 1)).2.2.1 + 1) (jx_x i.2.2 2) && jx_roomB (Mt (jx_x i.2.2 1)).1 M && jx_w (jx_x i.2.2 3) (.methodLink M.1.cls index (Mt (jx_x i.2.2 1)).1.1) && Nat.blt (jx_x i.2.2 1) nM
      | 1 => Nat.beq (Mt (jx_x i.2.2 1)).2.1 2 && Nat.beq ((Mt (jx_x i.2.2 1)).2.2.1 + 1) (jx_x i.2.2 2) && jx_roomB (Mt (jx_x i.2.2 1)).1 M && decide (jx_nest[jx_x i.2.2 3]? = some (M.1.cls, index, (Mt (jx_x i.2.2 1)).1.1, "TornStreams")) && Nat.blt (jx_x i.2.2 1) nM
      | _ => jx_w (jx_x i.2.2 1) (.methodLink M.1.cls index Lib.objectInit) && jx_w (jx_x i.2.2 2) (.instanceMethod Lib.objectInit) && jx_w (jx_x i.2.2 3) (.code Lib.objectInit ⟨#[0xb1]⟩ 1 none) && Nat.ble 1 M.2.2.2.2.2.1 && Nat.ble 12 M.2.2.2.2.2.2)
    | .ireturn => Nat.beq i.1 1 && (match jx_x i.2.2 0 with | 0 => decide (M.2.2.2.1 = some .int) | _ => decide (M.2.2.2.1 = some .boolean))
    | .lreturn => Nat.beq i.1 1 && decide (M.2.2.2.1 = some .long)
    | .areturn => Nat.beq i.1 1 && (match M.2.2.2.1 with | some (.object _) => true | _ => false)
    | .return_ => Nat.beq i.1 1 && decide (M.2.2.2.1 = none)
    | _ => false
end
section
/-! THE SIMULATION: checked blocks over the plain machine are sound over the kit's -/
theorem jx_cin {D : String} {T : u_T} {N : Nat} (ixs : List Nat) (h : (List.range N).all (fun k => jx_w (ixs.getD k 0) (u_lay D T k)) = true) : ∀ w ∈ u_ws D T N, w ∈ jx_wl := by
  intro w hw
  obtain ⟨k, hk, rfl⟩ := List.mem_map.mp hw
  exact jx_w_in (List.all_eq_true.mp h k hk)
theorem jx_in0 : ∀ w ∈ u_ws RX0 TX0 9, w ∈ jx_wl := jx_cin [120, 122, 124, 126, 128, 130, 132, 134, 136] (by decide +kernel)
theorem jx_in1 : ∀ w ∈ u_ws RX1 TX1 6, w ∈ jx_wl := jx_cin [157, 159, 161, 163, 165, 167] (by decide +kernel)
theorem jx_in2 : ∀ w ∈ u_ws RX2 TX2 12, w ∈ jx_wl := jx_cin [303, 305, 307, 309, 311, 313, 315, 317, 319, 321, 323, 325] (by decide +kernel)
theorem jx_in3 : ∀ w ∈ u_ws RX3 TX3 15, w ∈ jx_wl := jx_cin [253, 255, 257, 259, 261, 263, 265, 267, 269, 271, 273, 275, 277, 279, 281] (by decide +kernel)
theorem jx_in4 : ∀ w ∈ u_ws RX4 TX4 4, w ∈ jx_wl := jx_cin [212, 214, 216, 218] (by decide +kernel)
theorem jx_in5 : ∀ w ∈ u_ws RX5 TX5 6, w ∈ jx_wl := jx_cin [340, 342, 344, 346, 348, 350] (by decide +kernel)
theorem jx_in6 : ∀ w ∈ u_ws RX6 TX6 2, w ∈ jx_wl := jx_cin [183, 185] (by decide +kernel)
theorem jx_in7 : ∀ w ∈ u_ws RX7 TX7 8, w ∈ jx_wl := jx_cin [364, 366, 368, 370, 372, 374, 376, 378] (by decide +kernel)
theorem jx_in8 : ∀ w ∈ u_ws RX8 TX8 17, w ∈ jx_wl := jx_cin [868, 870, 872, 874, 876, 878, 880, 882, 884, 886, 888, 890, 892, 894, 896, 898, 900] (by decide +kernel)
def jx_cok (D : String) (T : u_T) (N : Nat) (ci : Nat) : Prop := (∀ w ∈ u_ws D T N, w ∈ jx_wl) ∧ ∃ ty0 : Nat → FieldType, (∀ k, k < N → parseFieldDescriptor (T k).2.2.1 = some (ty0 k)) ∧ (∀ a, a < N → ∀ b, b < N → a ≠ b → (T a).2.1 ≠ (T b).2.1) ∧ ∀ j, j < N → defaultValue (ty0 j) = vp_V (jx_born ci) j
theorem jx_cok0 : jx_cok RX0 TX0 9 0 := ⟨jx_in0, tyX0, tyX0_ok, nmX0, by decide +kernel⟩
theorem jx_cok1 : jx_cok RX1 TX1 6 1 := ⟨jx_in1, tyX1, tyX1_ok, nmX1, by decide +kernel⟩
theorem jx_cok2 : jx_cok RX2 TX2 12 2 := ⟨jx_in2, tyX2, tyX2_ok, nmX2, by decide +kernel⟩
theorem jx_cok3 : jx_cok RX3 TX3 15 3 := ⟨jx_in3, tyX3, tyX3_ok, nmX3, by decide +kernel⟩
theorem jx_cok4 : jx_cok RX4 TX4 4 4 := ⟨jx_in4, tyX4, tyX4_ok, nmX4, by decide +kernel⟩
theorem jx_cok5 : jx_cok RX5 TX5 6 5 := ⟨jx_in5, tyX5, tyX5_ok, nmX5, by decide +kernel⟩
theorem jx_cok6 : jx_cok RX6 TX6 2 6 := ⟨jx_in6, tyX6, tyX6_ok, nmX6, by decide +kernel⟩
theorem jx_cok7 : jx_cok RX7 TX7 8 7 := ⟨jx_in7, tyX7, tyX7_ok, nmX7, by decide +kernel⟩
theorem jx_cok8 : jx_cok RX8 TX8 17 8 := ⟨jx_in8, tyX8, tyX8_ok, nmX8, by decide +kernel⟩
theorem jx_cls {ci : Nat} {r : vw_C} (h : vwCl[ci]? = some r) : jx_cok r.1 r.2.1 r.2.2 ci := by
  match ci, h with
  | 0, h => cases h; exact jx_cok0
  | 1, h => cases h; exact jx_cok1
  | 2, h => cases h; exact jx_cok2
  | 3, h => cases h; exact jx_cok3
  | 4, h => cases h; exact jx_cok4
  | 5, h => cases h; exact jx_cok5
  | 6, h => cases h; exact jx_cok6
  | 7, h => cases h; exact jx_cok7
  | 8, h => cases h; exact jx_cok8
  | n + 9, h => simp [vwCl] at h
def jx_Tb (Mt : Nat → jx_Mt) : Nat → jx_Me := fun y => (Mt y).1
theorem jx_mchk_ok {q : jx_Mt} (h : jx_mchk q = true) : jx_mok q.1 q.2.2.1 ∧ (q.2.1 = 0 → Cond.static q.1.1 ∈ jx_wl ∧ q.1.2.2.2.2.1 = (0, 0)) ∧ (q.2.1 = 1 → Cond.instanceMethod q.1.1 ∈ jx_wl ∧ Cond.selects q.1.1.cls q.1.1 q.1.1 ∈ jx_wl ∧ q.1.2.2.2.2.1 = (0, 0)) ∧ (q.2.1 = 2 → Cond.instanceMethod q.1.1 ∈ jx_wl ∧ q.1.1.name = "<init>" ∧ q.1.2.2.2.1 = none) := by
  unfold jx_mchk at h
  simp only [Bool.and_eq_true, decide_eq_true_eq] at h
  obtain ⟨⟨⟨⟨h1, h2⟩, h3⟩, h4⟩, h5⟩ := h
  refine ⟨⟨jx_w_in h1, jx_w_in h2, h3, h4⟩, fun e => ?_, fun e => ?_, fun e => ?_⟩
  · rw [e] at h5
    simp only [Bool.and_eq_true, decide_eq_true_eq] at h5
    exact ⟨jx_w_in h5.1, h5.2⟩
  · rw [e] at h5
    simp only [Bool.and_eq_true, decide_eq_true_eq] at h5
    exact ⟨jx_w_in h5.1.1, jx_w_in h5.1.2, h5.2⟩
  · rw [e] at h5
    simp only [Bool.and_eq_true, decide_eq_true_eq] at h5
    exact ⟨jx_w_in h5.1.1, h5.1.2, h5.2⟩
theorem jx_roomB_ok {M R : jx_Me} (h : jx_roomB M R = true) : jx_room M (jx_rm R) := by
  unfold jx_roomB at h
  simp only [Bool.and_eq_true] at h
  exact ⟨Nat.le_of_ble_eq_true h.1, Nat.le_of_ble_eq_true h.2⟩
theorem jx_swc_ok {pc : Nat} {tg : Nat → Nat} : ∀ {os : List Int} {bs : List Nat}, jx_swc pc tg os bs = true → os.length = bs.length ∧ ∀ (i b : Nat), bs[i]? = some b → ∃ off, os[i]? = some off ∧ (pc : Int) + off = (tg b : Int)
  | [], [], _ => ⟨rfl, fun i b h => (by cases h)⟩
  | o :: os, b :: bs, h => by
    unfold jx_swc at h
    simp only [Bool.and_eq_true] at h
    obtain ⟨h1, h2⟩ := jx_swc_ok h.2
    refine ⟨by simp [h1], fun i b' hb => ?_⟩
    match i, hb with
    | 0, hb => cases hb; exact ⟨o, rfl, of_decide_eq_true h.1⟩
    | i + 1, hb => exact h2 i b' hb
  | [], _ :: _, h => (by cases h)
  | _ :: _, [], h => (by cases h)
theorem jx_tyat {G : jx_G} {ci : Nat} (h : (Nat.beq ci 2 || Nat.beq ci 5) = true) : (jx_tys G)[jx_t0 ci]? = some (G.2.1 (.object (jx_nm ci)), .object (jx_nm ci)) := by
  simp only [Bool.or_eq_true] at h
  rcases h with h | h
  · rw [Nat.eq_of_beq_eq_true h]; rfl
  · rw [Nat.eq_of_beq_eq_true h]; rfl
theorem jx_clat {ci : Nat} (h : (Nat.beq ci 2 || Nat.beq ci 5) = true) : ∃ (D : String) (T : u_T) (N : Nat), vwCl[ci]? = some (D, T, N) := by
  simp only [Bool.or_eq_true] at h
  rcases h with h | h
  · rw [Nat.eq_of_beq_eq_true h]; exact ⟨_, _, _, rfl⟩
  · rw [Nat.eq_of_beq_eq_true h]; exact ⟨_, _, _, rfl⟩
theorem jx_aoat {G : jx_G} {s : State} {ci : Nat} (hF : jx_F G s) (h : (Nat.beq ci 2 || Nat.beq ci 5) = true) : va_AO (jx_nm ci) s := by
  simp only [Bool.or_eq_true] at h
  rcases h with h | h
  · rw [Nat.eq_of_beq_eq_true h]; exact hF.2.2.2.1
  · rw [Nat.eq_of_beq_eq_true h]; exact hF.2.2.2.2.1
theorem jx_refd_ok {d : String} (h : jx_refd d = true) : (∃ n, parseFieldDescriptor d = some (.object n)) ∨ ∃ t, parseFieldDescriptor d = some (.array t) := by
  unfold jx_refd at h
  split at h
  · exact Or.inl ⟨_, by assumption⟩
  · exact Or.inr ⟨_, by assumption⟩
  · cases h
section JXM
variable {p : Program} {l : Launch} {e : Env} {s : State} {m : MethodId} {args : Array Value} {below : List Frame} {meth : Method} {c : Code} {Φ : State → Prop} {G : jx_G} {M : jx_Me} {C : jx_C} {J : jx_J} {q : jx_Q} {K : jx_K} {nM : Nat} {Mt : Nat → jx_Mt} {tg : Nat → Nat} {pc : Nat}
set_option maxHeartbeats 4000000 in
theorem jx_chk_ok (X : jx_X p s m args meth c (jx_rm M) G M.1.cls M.1.name M.2.1 M.2.2.1 M.2.2.2.2.1.1 M.2.2.2.2.1.2) (hmk : ∀ y, y < nM → jx_mchk (Mt y) = true) (hC : jx_CS l G (jx_Tb Mt) C) (hq : jx_RS p l e (jx_rm M) s m args below meth c Φ G M.2.2.2.2.1.1 M.2.2.2.2.1.2 M.2.1 M.2.2.2.1 q) (hj : ∀ b, jx_KS p l e (jx_rm M) s m args below meth c Φ G M.2.2.1 M.2.2.2.2.1.1 M.2.2.2.2.1.2 (tg b) (J b)) {i : jx_I} (hchk : jx_chk nM Mt tg M pc i = true) (hk : jx_KS p l e (jx_rm M) s m args below meth c Φ G M.2.2.1 M.2.2.2.2.1.1 M.2.2.2.2.1.2 (pc + i.1) (K)) : jx_KS p l e (jx_rm M) s m args below meth c Φ G M.2.2.1 M.2.2.2.2.1.1 M.2.2.2.2.1.2 (pc) (jx_tr (jx_Tb Mt) i C J q K) := by
  obtain ⟨len, ins, x⟩ := i
  cases ins
  case nop =>
    simp only [jx_chk, Bool.and_eq_true] at hchk
    have h2 := hj (jx_x x 0)
    rw [Nat.eq_of_beq_eq_true hchk.2] at h2
    exact h2
  case iconst n =>
    simp only [jx_chk, Bool.and_eq_true, decide_eq_true_eq] at hchk
    obtain ⟨d, h1, h2⟩ := hchk
    cases (Nat.eq_of_beq_eq_true h1)
    exact js_iconst (C := C) (J := J) (q := q) (K := K) X h2 d hk
  case bipush n =>
    simp only [jx_chk, Bool.and_eq_true, decide_eq_true_eq] at hchk
    obtain ⟨d, h1, h2⟩ := hchk
    cases (Nat.eq_of_beq_eq_true h1)
    exact js_bipush (C := C) (J := J) (q := q) (K := K) X h2 d hk
  case sipush n =>
    simp only [jx_chk, Bool.and_eq_true, decide_eq_true_eq] at hchk
    obtain ⟨d, h1, h2⟩ := hchk
    cases (Nat.eq_of_beq_eq_true h1)
    exact js_sipush (C := C) (J := J) (q := q) (K := K) X h2 d hk
  case ldc n =>
    simp only [jx_chk, Bool.and_eq_true, decide_eq_true_eq] at hchk
    obtain ⟨d, h1, h2⟩ := hchk
    cases (Nat.eq_of_beq_eq_true h1)
    exact js_ldc (C := C) (J := J) (q := q) (K := K) X (jx_w_in h2) d hk
  case ldc_w n =>
    simp only [jx_chk, Bool.and_eq_true, decide_eq_true_eq] at hchk
    obtain ⟨d, h1, h2⟩ := hchk
    cases (Nat.eq_of_beq_eq_true h1)
    exact js_ldcw (C := C) (J := J) (q := q) (K := K) X (jx_w_in h2) d hk
  case ldc2_w n =>
    simp only [jx_chk, Bool.and_eq_true, decide_eq_true_eq] at hchk
    obtain ⟨d, h1, h2⟩ := hchk
    cases (Nat.eq_of_beq_eq_true h1)
    exact js_ldc2 (C := C) (J := J) (q := q) (K := K) X (jx_w_in h2) d hk
  case lconst n =>
    simp only [jx_chk, Bool.and_eq_true, decide_eq_true_eq] at hchk
    obtain ⟨d, h1⟩ := hchk
    cases (Nat.eq_of_beq_eq_true h1)
    exact js_lconst (C := C) (J := J) (q := q) (K := K) X rfl d hk
  case iload n =>
    simp only [jx_chk, Bool.and_eq_true, decide_eq_true_eq] at hchk
    obtain ⟨d, h1⟩ := hchk
    cases (Nat.eq_of_beq_eq_true h1)
    exact js_iload (C := C) (J := J) (q := q) (K := K) X d hk
  case iload_n n =>
    simp only [jx_chk, Bool.and_eq_true, decide_eq_true_eq] at hchk
    obtain ⟨d, h1⟩ := hchk
    cases (Nat.eq_of_beq_eq_true h1)
    exact js_iload_n (C := C) (J := J) (q := q) (K := K) X d hk
  case istore n =>
    simp only [jx_chk, Bool.and_eq_true, decide_eq_true_eq] at hchk
    obtain ⟨d, h1, h2⟩ := hchk
    cases (Nat.eq_of_beq_eq_true h1)
    exact js_istore (C := C) (J := J) (q := q) (K := K) X (Nat.le_of_ble_eq_true h2) d hk
  case istore_n n =>
    simp only [jx_chk, Bool.and_eq_true, decide_eq_true_eq] at hchk
    obtain ⟨d, h1, h2⟩ := hchk
    cases (Nat.eq_of_beq_eq_true h1)
    exact js_istore_n (C := C) (J := J) (q := q) (K := K) X (Nat.le_of_ble_eq_true h2) d hk
  case lload n =>
    simp only [jx_chk, Bool.and_eq_true, decide_eq_true_eq] at hchk
    obtain ⟨d, h1⟩ := hchk
    cases (Nat.eq_of_beq_eq_true h1)
    exact js_lload (C := C) (J := J) (q := q) (K := K) X d hk
  case lload_n n =>
    simp only [jx_chk, Bool.and_eq_true, decide_eq_true_eq] at hchk
    obtain ⟨d, h1⟩ := hchk
    cases (Nat.eq_of_beq_eq_true h1)
    exact js_lload_n (C := C) (J := J) (q := q) (K := K) X d hk
  case lstore n =>
    simp only [jx_chk, Bool.and_eq_true, decide_eq_true_eq] at hchk
    obtain ⟨d, h1, h2⟩ := hchk
    cases (Nat.eq_of_beq_eq_true h1)
    exact js_lstore (C := C) (J := J) (q := q) (K := K) X (Nat.le_of_ble_eq_true h2) d hk
  case lstore_n n =>
    simp only [jx_chk, Bool.and_eq_true, decide_eq_true_eq] at hchk
    obtain ⟨d, h1, h2⟩ := hchk
    cases (Nat.eq_of_beq_eq_true h1)
    exact js_lstore_n (C := C) (J := J) (q := q) (K := K) X (Nat.le_of_ble_eq_true h2) d hk
  case aload n =>
    simp only [jx_chk, Bool.and_eq_true, decide_eq_true_eq] at hchk
    obtain ⟨d, h1⟩ := hchk
    cases (Nat.eq_of_beq_eq_true h1)
    exact js_aload (C := C) (J := J) (q := q) (K := K) X d hk
  case aload_n n =>
    simp only [jx_chk, Bool.and_eq_true, decide_eq_true_eq] at hchk
    obtain ⟨d, h1⟩ := hchk
    cases (Nat.eq_of_beq_eq_true h1)
    exact js_aload_n (C := C) (J := J) (q := q) (K := K) X d hk
  case astore n =>
    simp only [jx_chk, Bool.and_eq_true, decide_eq_true_eq] at hchk
    obtain ⟨d, h1, h2⟩ := hchk
    cases (Nat.eq_of_beq_eq_true h1)
    exact js_astore (C := C) (J := J) (q := q) (K := K) X (Nat.le_of_ble_eq_true h2) d hk
  case astore_n n =>
    simp only [jx_chk, Bool.and_eq_true, decide_eq_true_eq] at hchk
    obtain ⟨d, h1, h2⟩ := hchk
    cases (Nat.eq_of_beq_eq_true h1)
    exact js_astore_n (C := C) (J := J) (q := q) (K := K) X (Nat.le_of_ble_eq_true h2) d hk
  case iinc j n =>
    simp only [jx_chk, Bool.and_eq_true, decide_eq_true_eq] at hchk
    obtain ⟨d, ⟨h1, h2⟩, h3⟩ := hchk
    cases (Nat.eq_of_beq_eq_true h1)
    exact js_iinc (C := C) (J := J) (q := q) (K := K) X h2 (Nat.le_of_ble_eq_true h3) d hk
  case iadd =>
    simp only [jx_chk, Bool.and_eq_true, decide_eq_true_eq] at hchk
    obtain ⟨d, h1⟩ := hchk
    cases (Nat.eq_of_beq_eq_true h1)
    exact js_iadd (C := C) (J := J) (q := q) (K := K) X d hk
  case isub =>
    simp only [jx_chk, Bool.and_eq_true, decide_eq_true_eq] at hchk
    obtain ⟨d, h1⟩ := hchk
    cases (Nat.eq_of_beq_eq_true h1)
    exact js_isub (C := C) (J := J) (q := q) (K := K) X d hk
  case imul =>
    simp only [jx_chk, Bool.and_eq_true, decide_eq_true_eq] at hchk
    obtain ⟨d, h1⟩ := hchk
    cases (Nat.eq_of_beq_eq_true h1)
    exact js_imul (C := C) (J := J) (q := q) (K := K) X d hk
  case iand =>
    simp only [jx_chk, Bool.and_eq_true, decide_eq_true_eq] at hchk
    obtain ⟨d, h1⟩ := hchk
    cases (Nat.eq_of_beq_eq_true h1)
    exact js_iand (C := C) (J := J) (q := q) (K := K) X d hk
  case ior =>
    simp only [jx_chk, Bool.and_eq_true, decide_eq_true_eq] at hchk
    obtain ⟨d, h1⟩ := hchk
    cases (Nat.eq_of_beq_eq_true h1)
    exact js_ior (C := C) (J := J) (q := q) (K := K) X d hk
  case ixor =>
    simp only [jx_chk, Bool.and_eq_true, decide_eq_true_eq] at hchk
    obtain ⟨d, h1⟩ := hchk
    cases (Nat.eq_of_beq_eq_true h1)
    exact js_ixor (C := C) (J := J) (q := q) (K := K) X d hk
  case ishl =>
    simp only [jx_chk, Bool.and_eq_true, decide_eq_true_eq] at hchk
    obtain ⟨d, h1⟩ := hchk
    cases (Nat.eq_of_beq_eq_true h1)
    exact js_ishl (C := C) (J := J) (q := q) (K := K) X d hk
  case ishr =>
    simp only [jx_chk, Bool.and_eq_true, decide_eq_true_eq] at hchk
    obtain ⟨d, h1⟩ := hchk
    cases (Nat.eq_of_beq_eq_true h1)
    exact js_ishr (C := C) (J := J) (q := q) (K := K) X d hk
  case iushr =>
    simp only [jx_chk, Bool.and_eq_true, decide_eq_true_eq] at hchk
    obtain ⟨d, h1⟩ := hchk
    cases (Nat.eq_of_beq_eq_true h1)
    exact js_iushr (C := C) (J := J) (q := q) (K := K) X d hk
  case irem =>
    simp only [jx_chk, Bool.and_eq_true, decide_eq_true_eq] at hchk
    obtain ⟨d, h1⟩ := hchk
    cases (Nat.eq_of_beq_eq_true h1)
    exact js_irem (C := C) (J := J) (q := q) (K := K) X d hk
  case ladd =>
    simp only [jx_chk, Bool.and_eq_true, decide_eq_true_eq] at hchk
    obtain ⟨d, h1⟩ := hchk
    cases (Nat.eq_of_beq_eq_true h1)
    exact js_ladd (C := C) (J := J) (q := q) (K := K) X d hk
  case lsub =>
    simp only [jx_chk, Bool.and_eq_true, decide_eq_true_eq] at hchk
    obtain ⟨d, h1⟩ := hchk
    cases (Nat.eq_of_beq_eq_true h1)
    exact js_lsub (C := C) (J := J) (q := q) (K := K) X d hk
  case lmul =>
    simp only [jx_chk, Bool.and_eq_true, decide_eq_true_eq] at hchk
    obtain ⟨d, h1⟩ := hchk
    cases (Nat.eq_of_beq_eq_true h1)
    exact js_lmul (C := C) (J := J) (q := q) (K := K) X d hk
  case land =>
    simp only [jx_chk, Bool.and_eq_true, decide_eq_true_eq] at hchk
    obtain ⟨d, h1⟩ := hchk
    cases (Nat.eq_of_beq_eq_true h1)
    exact js_land (C := C) (J := J) (q := q) (K := K) X d hk
  case lor =>
    simp only [jx_chk, Bool.and_eq_true, decide_eq_true_eq] at hchk
    obtain ⟨d, h1⟩ := hchk
    cases (Nat.eq_of_beq_eq_true h1)
    exact js_lor (C := C) (J := J) (q := q) (K := K) X d hk
  case lshl =>
    simp only [jx_chk, Bool.and_eq_true, decide_eq_true_eq] at hchk
    obtain ⟨d, h1⟩ := hchk
    cases (Nat.eq_of_beq_eq_true h1)
    exact js_lshl (C := C) (J := J) (q := q) (K := K) X d hk
  case lushr =>
    simp only [jx_chk, Bool.and_eq_true, decide_eq_true_eq] at hchk
    obtain ⟨d, h1⟩ := hchk
    cases (Nat.eq_of_beq_eq_true h1)
    exact js_lushr (C := C) (J := J) (q := q) (K := K) X d hk
  case lcmp =>
    simp only [jx_chk, Bool.and_eq_true, decide_eq_true_eq] at hchk
    obtain ⟨d, h1⟩ := hchk
    cases (Nat.eq_of_beq_eq_true h1)
    exact js_lcmp (C := C) (J := J) (q := q) (K := K) X d hk
  case i2l =>
    simp only [jx_chk, Bool.and_eq_true, decide_eq_true_eq] at hchk
    obtain ⟨d, h1⟩ := hchk
    cases (Nat.eq_of_beq_eq_true h1)
    exact js_i2l (C := C) (J := J) (q := q) (K := K) X d hk
  case l2i =>
    simp only [jx_chk, Bool.and_eq_true, decide_eq_true_eq] at hchk
    obtain ⟨d, h1⟩ := hchk
    cases (Nat.eq_of_beq_eq_true h1)
    exact js_l2i (C := C) (J := J) (q := q) (K := K) X d hk
  case i2b =>
    simp only [jx_chk, Bool.and_eq_true, decide_eq_true_eq] at hchk
    obtain ⟨d, h1⟩ := hchk
    cases (Nat.eq_of_beq_eq_true h1)
    exact js_i2b (C := C) (J := J) (q := q) (K := K) X d hk
  case dup =>
    simp only [jx_chk, Bool.and_eq_true, decide_eq_true_eq] at hchk
    obtain ⟨d, h1⟩ := hchk
    cases (Nat.eq_of_beq_eq_true h1)
    exact js_dup (C := C) (J := J) (q := q) (K := K) X d hk
  case dup2 =>
    simp only [jx_chk, Bool.and_eq_true, decide_eq_true_eq] at hchk
    obtain ⟨d, h1⟩ := hchk
    cases (Nat.eq_of_beq_eq_true h1)
    exact js_dup2 (C := C) (J := J) (q := q) (K := K) X d hk
  case pop =>
    simp only [jx_chk, Bool.and_eq_true, decide_eq_true_eq] at hchk
    obtain ⟨d, h1⟩ := hchk
    cases (Nat.eq_of_beq_eq_true h1)
    exact js_pop (C := C) (J := J) (q := q) (K := K) X d hk
  case ifCond cd off =>
    simp only [jx_chk, Bool.and_eq_true, decide_eq_true_eq] at hchk
    obtain ⟨d, h1, h2⟩ := hchk
    cases (Nat.eq_of_beq_eq_true h1)
    have ht := of_decide_eq_true h2
    cases cd
    case eq => exact js_ifeq (C := C) (J := J) (q := q) (K := K) X ht (hj _) d hk
    case ne => exact js_ifne (C := C) (J := J) (q := q) (K := K) X ht (hj _) d hk
    case lt => exact js_iflt (C := C) (J := J) (q := q) (K := K) X ht (hj _) d hk
    case ge => exact js_ifge (C := C) (J := J) (q := q) (K := K) X ht (hj _) d hk
    case gt => exact js_ifgt (C := C) (J := J) (q := q) (K := K) X ht (hj _) d hk
    case le => exact js_ifle (C := C) (J := J) (q := q) (K := K) X ht (hj _) d hk
  case if_icmp cd off =>
    simp only [jx_chk, Bool.and_eq_true, decide_eq_true_eq] at hchk
    obtain ⟨d, h1, h2⟩ := hchk
    cases (Nat.eq_of_beq_eq_true h1)
    have ht := of_decide_eq_true h2
    cases cd
    case eq => exact js_cmpeq (C := C) (J := J) (q := q) (K := K) X ht (hj _) d hk
    case ne => exact js_cmpne (C := C) (J := J) (q := q) (K := K) X ht (hj _) d hk
    case lt => exact js_cmplt (C := C) (J := J) (q := q) (K := K) X ht (hj _) d hk
    case ge => exact js_cmpge (C := C) (J := J) (q := q) (K := K) X ht (hj _) d hk
    case gt => exact js_cmpgt (C := C) (J := J) (q := q) (K := K) X ht (hj _) d hk
    case le => exact js_cmple (C := C) (J := J) (q := q) (K := K) X ht (hj _) d hk
  case goto off =>
    simp only [jx_chk, Bool.and_eq_true, decide_eq_true_eq] at hchk
    obtain ⟨d, h1, h2⟩ := hchk
    cases (Nat.eq_of_beq_eq_true h1)
    exact js_goto (C := C) (J := J) (q := q) (K := K) X (of_decide_eq_true h2) (hj _) d
  case tableswitch dflt lo hi offs =>
    simp only [jx_chk, Bool.and_eq_true, decide_eq_true_eq] at hchk
    obtain ⟨d, ⟨h1, h2⟩, h3⟩ := hchk
    obtain ⟨g1, g2⟩ := jx_swc_ok h3
    exact js_sw (C := C) (J := J) (q := q) (K := K) X (tg := tg) (by rw [← Array.length_toList]; exact g1) h2 (of_decide_eq_true h1) (fun i b hb => by obtain ⟨off, e1, e2⟩ := g2 i b hb; exact ⟨off, by rw [← Array.getElem?_toList]; exact e1, e2⟩) hj d
  case getfield index =>
    simp only [jx_chk, Bool.and_eq_true, decide_eq_true_eq] at hchk
    obtain ⟨d, h1, h2⟩ := hchk
    cases (Nat.eq_of_beq_eq_true h1)
    split at h2
    · rename_i r hr
      unfold jx_fld at h2
      simp only [Bool.and_eq_true] at h2
      have hc := jx_cls hr
      show jx_KS _ _ _ _ _ _ _ _ _ _ _ _ _ _ _ _ (jx_gf x C J q K)
      unfold jx_gf
      generalize jx_x x 0 = z
      rcases z with _ | _ | z
      · exact js_gfi (C := C) (J := J) (q := q) (K := K) X hr hc.1 (Nat.le_of_ble_eq_true h2.1) (jx_w_in h2.2) d hk
      · exact js_gfl (C := C) (J := J) (q := q) (K := K) X hr hc.1 (Nat.le_of_ble_eq_true h2.1) (jx_w_in h2.2) d hk
      · exact js_gfr (C := C) (J := J) (q := q) (K := K) X hr hc.1 (Nat.le_of_ble_eq_true h2.1) (jx_w_in h2.2) d hk
    · cases h2
  case putfield index =>
    simp only [jx_chk, Bool.and_eq_true, decide_eq_true_eq] at hchk
    obtain ⟨d, h1, h2⟩ := hchk
    cases (Nat.eq_of_beq_eq_true h1)
    split at h2
    · rename_i r hr
      simp only [Bool.and_eq_true] at h2
      obtain ⟨⟨h3, h4⟩, h5⟩ := h2
      unfold jx_fld at h3
      simp only [Bool.and_eq_true] at h3
      obtain ⟨hc1, ty0, hc2, hc3, -⟩ := jx_cls hr
      have hlt := Nat.le_of_ble_eq_true h3.1
      have hw := jx_w_in h3.2
      show jx_KS _ _ _ _ _ _ _ _ _ _ _ _ _ _ _ _ (jx_pf x C J q K)
      unfold jx_pfc at h4
      unfold jx_pf
      generalize jx_x x 0 = z at h4 h5 ⊢
      cases hfin : (r.2.1 (jx_x x 2)).2.2.2 with
      | false =>
        rcases z with _ | _ | _ | z
        · exact js_pfi (C := C) (J := J) (q := q) (K := K) X hr hc1 ty0 hc2 hc3 hlt hw hfin (of_decide_eq_true h4) d hk
        · exact js_pfl (C := C) (J := J) (q := q) (K := K) X hr hc1 ty0 hc2 hc3 hlt hw hfin (of_decide_eq_true h4) d hk
        · exact js_pfr (C := C) (J := J) (q := q) (K := K) X hr hc1 ty0 hc2 hc3 hlt hw hfin (jx_refd_ok h4) d hk
        · exact js_pfz (C := C) (J := J) (q := q) (K := K) X hr hc1 ty0 hc2 hc3 hlt hw hfin (of_decide_eq_true h4) d hk
      | true =>
        rw [hfin] at h5
        simp only [Bool.and_eq_true, Bool.or_eq_true, decide_eq_true_eq] at h5
        obtain ⟨⟨h6, h7⟩, h8⟩ := h5
        rcases h6 with h6 | h6
        · rw [Nat.eq_of_beq_eq_true h6] at h4 ⊢
          exact js_pfFi (C := C) (J := J) (q := q) (K := K) X hr hc1 ty0 hc2 hc3 hlt hw hfin h7 h8 (of_decide_eq_true h4) d hk
        · rw [Nat.eq_of_beq_eq_true h6] at h4 ⊢
          exact js_pfFr (C := C) (J := J) (q := q) (K := K) X hr hc1 ty0 hc2 hc3 hlt hw hfin h7 h8 (jx_refd_ok h4) d hk
    · cases h2
  case getstatic index =>
    simp only [jx_chk, Bool.and_eq_true, decide_eq_true_eq] at hchk
    obtain ⟨d, h1, h2⟩ := hchk
    cases (Nat.eq_of_beq_eq_true h1)
    split at h2
    · rename_i r hr
      exact js_gs (C := C) (J := J) (q := q) (K := K) X hr (jx_w_in h2) d hk
    · cases h2
  case iaload =>
    simp only [jx_chk, Bool.and_eq_true, decide_eq_true_eq] at hchk
    obtain ⟨d, h1⟩ := hchk
    cases (Nat.eq_of_beq_eq_true h1)
    show jx_KS _ _ _ _ _ _ _ _ _ _ _ _ _ _ _ _ (jx_al0 x C J q K)
    unfold jx_al0
    generalize jx_x x 0 = z
    rcases z with _ | z
    · exact js_iald (C := C) (J := J) (q := q) (K := K) X d hk
    · exact js_rald (C := C) (J := J) (q := q) (K := K) X d hk
  case baload =>
    simp only [jx_chk, Bool.and_eq_true, decide_eq_true_eq] at hchk
    obtain ⟨d, h1⟩ := hchk
    cases (Nat.eq_of_beq_eq_true h1)
    exact js_bald (C := C) (J := J) (q := q) (K := K) X d hk
  case aaload =>
    simp only [jx_chk, Bool.and_eq_true, decide_eq_true_eq] at hchk
    obtain ⟨d, h1, h2⟩ := hchk
    cases (Nat.eq_of_beq_eq_true h1)
    exact js_aald (C := C) (J := J) (q := q) (K := K) X (jx_tyat h2) d hk
  case iastore =>
    simp only [jx_chk, Bool.and_eq_true, decide_eq_true_eq] at hchk
    obtain ⟨d, h1⟩ := hchk
    cases (Nat.eq_of_beq_eq_true h1)
    exact js_iast (C := C) (J := J) (q := q) (K := K) X d hk
  case bastore =>
    simp only [jx_chk, Bool.and_eq_true, decide_eq_true_eq] at hchk
    obtain ⟨d, h1⟩ := hchk
    cases (Nat.eq_of_beq_eq_true h1)
    exact js_bast (C := C) (J := J) (q := q) (K := K) X d hk
  case aastore =>
    simp only [jx_chk, Bool.and_eq_true, decide_eq_true_eq] at hchk
    obtain ⟨d, h1, h2⟩ := hchk
    cases (Nat.eq_of_beq_eq_true h1)
    obtain ⟨D, T, N, hcl⟩ := jx_clat h2
    exact js_aast (C := C) (J := J) (q := q) (K := K) X hcl (jx_tyat h2) d hk
  case arraylength =>
    simp only [jx_chk, Bool.and_eq_true, decide_eq_true_eq] at hchk
    obtain ⟨d, h1⟩ := hchk
    cases (Nat.eq_of_beq_eq_true h1)
    show jx_KS _ _ _ _ _ _ _ _ _ _ _ _ _ _ _ _ (jx_len x C J q K)
    unfold jx_len
    generalize jx_x x 0 = z
    rcases z with _ | _ | z
    · exact js_ilen (C := C) (J := J) (q := q) (K := K) X d hk
    · exact js_rlen (C := C) (J := J) (q := q) (K := K) X d hk
    · exact js_blen (C := C) (J := J) (q := q) (K := K) X d hk
  case new index =>
    simp only [jx_chk, Bool.and_eq_true, decide_eq_true_eq] at hchk
    obtain ⟨d, h1, h2⟩ := hchk
    cases (Nat.eq_of_beq_eq_true h1)
    split at h2
    · rename_i r hr
      simp only [Bool.and_eq_true] at h2
      obtain ⟨hc1, ty0, hc2, hc3, hc4⟩ := jx_cls hr
      have hnf : jx_nf (jx_x x 0) = r.2.2 := by unfold jx_nf; rw [hr]
      show jx_KS _ _ _ _ _ _ _ _ _ _ _ _ _ _ _ _ (jt_new (jx_x x 0) (jx_nf (jx_x x 0)) (jx_born (jx_x x 0)) C J q K)
      rw [hnf]
      exact js_new (C := C) (J := J) (q := q) (K := K) X hr hc1 ty0 hc2 hc4 (jx_w_in h2.1.1) (jx_w_in h2.1.2) (jx_w_in h2.2) d hk
    · cases h2
  case newarray t =>
    cases t
    case int =>
      simp only [jx_chk, Bool.and_eq_true, decide_eq_true_eq] at hchk
      obtain ⟨d, h1, h2⟩ := hchk
      cases (Nat.eq_of_beq_eq_true h1)
      exact js_newi (C := C) (J := J) (q := q) (K := K) X (jx_w_in h2) d hk
    case byte =>
      simp only [jx_chk, Bool.and_eq_true, decide_eq_true_eq] at hchk
      obtain ⟨d, h1, h2⟩ := hchk
      cases (Nat.eq_of_beq_eq_true h1)
      exact js_newb (C := C) (J := J) (q := q) (K := K) X (jx_w_in h2) d hk
    all_goals (simp [jx_chk] at hchk)
  case anewarray index =>
    simp only [jx_chk, Bool.and_eq_true, decide_eq_true_eq] at hchk
    obtain ⟨d, ⟨h1, h2⟩, h3⟩ := hchk
    cases (Nat.eq_of_beq_eq_true h1)
    exact js_newr (C := C) (J := J) (q := q) (K := K) X (jx_tyat h2) (jx_aoat X.2.2.2.2.2.2.1 h2) (jx_w_in h3) d hk
  case invokevirtual index =>
    simp only [jx_chk, Bool.and_eq_true, decide_eq_true_eq] at hchk
    obtain ⟨d, ⟨⟨⟨⟨⟨h1, h2⟩, h3⟩, h4⟩, h5⟩, h6⟩, h7⟩ := hchk
    cases (Nat.eq_of_beq_eq_true h1)
    obtain ⟨g1, -, g2, -⟩ := jx_mchk_ok (hmk _ (Nat.le_of_ble_eq_true h7))
    obtain ⟨w2, w3, h0⟩ := g2 (Nat.eq_of_beq_eq_true h2)
    split at h5
    · rename_i r hr
      obtain ⟨D, T, N⟩ := r
      have hD : D = _ := of_decide_eq_true h5
      subst hD
      show jx_KS _ _ _ _ _ _ _ _ _ _ _ _ _ _ _ _ (jt_callV (jx_Tb Mt) (jx_x x 1) (jx_x x 2) (jx_x x 3) (jx_x x 4) C J q K)
      rw [← Nat.eq_of_beq_eq_true h3]
      exact js_callV (C := C) (J := J) (q := q) (K := K) X hC g1 h0 (jx_roomB_ok h4) hr (jx_w_in h6) w2 w3 d hk
    · cases h5
  case invokestatic index =>
    simp only [jx_chk, Bool.and_eq_true, decide_eq_true_eq] at hchk
    obtain ⟨d, h1, h2⟩ := hchk
    cases (Nat.eq_of_beq_eq_true h1)
    show jx_KS _ _ _ _ _ _ _ _ _ _ _ _ _ _ _ _ (jx_ist (jx_Tb Mt) x C J q K)
    unfold jx_ist
    generalize jx_x x 0 = z at h2 ⊢
    rcases z with _ | _ | _ | _ | _ | z
    · simp only [Bool.and_eq_true] at h2
      obtain ⟨⟨⟨⟨h3, h4⟩, h5⟩, h6⟩, h7⟩ := h2
      obtain ⟨g1, g2, -, -⟩ := jx_mchk_ok (hmk _ (Nat.le_of_ble_eq_true h7))
      obtain ⟨w2, h0⟩ := g2 (Nat.eq_of_beq_eq_true h3)
      rw [← Nat.eq_of_beq_eq_true h4]
      exact js_callS (C := C) (J := J) (q := q) (K := K) X hC g1 h0 (jx_roomB_ok h5) (jx_w_in h6) w2 d hk
    · simp only [Bool.and_eq_true, decide_eq_true_eq] at h2
      obtain ⟨⟨⟨⟨h3, h4⟩, h5⟩, h6⟩, h7⟩ := h2
      obtain ⟨g1, g2, -, -⟩ := jx_mchk_ok (hmk _ (Nat.le_of_ble_eq_true h7))
      obtain ⟨w2, h0⟩ := g2 (Nat.eq_of_beq_eq_true h3)
      rw [← Nat.eq_of_beq_eq_true h4]
      exact js_callSN (C := C) (J := J) (q := q) (K := K) X hC g1 h0 (jx_roomB_ok h5) (List.mem_of_getElem? h6) w2 d hk
    · simp only [Bool.and_eq_true] at h2
      obtain ⟨⟨⟨⟨⟨h3, h4⟩, h5⟩, h6⟩, h7⟩, h8⟩ := h2
      exact js_cpy (C := C) (J := J) (q := q) (K := K) X (t0 := 0) (by decide) rfl rfl (jx_w_in h3) (jx_w_in h4) (jx_w_in h5) (jx_w_in h6) (Nat.le_of_ble_eq_true h7) (Nat.le_of_ble_eq_true h8) d hk
    · simp only [Bool.and_eq_true] at h2
      obtain ⟨⟨⟨⟨⟨h3, h4⟩, h5⟩, h6⟩, h7⟩, h8⟩ := h2
      exact js_cpy (C := C) (J := J) (q := q) (K := K) X (t0 := 1) (by decide) rfl rfl (jx_w_in h3) (jx_w_in h4) (jx_w_in h5) (jx_w_in h6) (Nat.le_of_ble_eq_true h7) (Nat.le_of_ble_eq_true h8) d hk
    · simp only [Bool.and_eq_true] at h2
      obtain ⟨⟨⟨⟨⟨h3, h4⟩, h5⟩, h6⟩, h7⟩, h8⟩ := h2
      exact js_mmin (C := C) (J := J) (q := q) (K := K) X (jx_w_in h3) (jx_w_in h4) (jx_w_in h5) (jx_w_in h6) (Nat.le_of_ble_eq_true h7) (Nat.le_of_ble_eq_true h8) d hk
    · simp only [Bool.and_eq_true] at h2
      obtain ⟨⟨⟨⟨⟨h3, h4⟩, h5⟩, h6⟩, h7⟩, h8⟩ := h2
      exact js_mmax (C := C) (J := J) (q := q) (K := K) X (jx_w_in h3) (jx_w_in h4) (jx_w_in h5) (jx_w_in h6) (Nat.le_of_ble_eq_true h7) (Nat.le_of_ble_eq_true h8) d hk
  case invokespecial index =>
    simp only [jx_chk, Bool.and_eq_true, decide_eq_true_eq] at hchk
    obtain ⟨d, h1, h2⟩ := hchk
    cases (Nat.eq_of_beq_eq_true h1)
    show jx_KS _ _ _ _ _ _ _ _ _ _ _ _ _ _ _ _ (jx_isp (jx_Tb Mt) x C J q K)
    unfold jx_isp
    generalize jx_x x 0 = z at h2 ⊢
    rcases z with _ | _ | z
    · simp only [Bool.and_eq_true] at h2
      obtain ⟨⟨⟨⟨h3, h4⟩, h5⟩, h6⟩, h7⟩ := h2
      obtain ⟨g1, -, -, g2⟩ := jx_mchk_ok (hmk _ (Nat.le_of_ble_eq_true h7))
      obtain ⟨w2, hn, hr⟩ := g2 (Nat.eq_of_beq_eq_true h3)
      rw [← Nat.eq_of_beq_eq_true h4]
      exact js_callI (C := C) (J := J) (q := q) (K := K) X hC g1 hr (jx_roomB_ok h5) hn (jx_w_in h6) w2 d hk
    · simp only [Bool.and_eq_true, decide_eq_true_eq] at h2
      obtain ⟨⟨⟨⟨h3, h4⟩, h5⟩, h6⟩, h7⟩ := h2
      obtain ⟨g1, -, -, g2⟩ := jx_mchk_ok (hmk _ (Nat.le_of_ble_eq_true h7))
      obtain ⟨w2, hn, hr⟩ := g2 (Nat.eq_of_beq_eq_true h3)
      rw [← Nat.eq_of_beq_eq_true h4]
      exact js_callIN (C := C) (J := J) (q := q) (K := K) X hC g1 hr (jx_roomB_ok h5) hn (List.mem_of_getElem? h6) w2 d hk
    · simp only [Bool.and_eq_true] at h2
      obtain ⟨⟨⟨⟨h3, h4⟩, h5⟩, h7⟩, h8⟩ := h2
      exact js_oi (C := C) (J := J) (q := q) (K := K) X (jx_w_in h3) (jx_w_in h4) (jx_w_in h5) (Nat.le_of_ble_eq_true h7) (Nat.le_of_ble_eq_true h8) d hk
  case ireturn =>
    simp only [jx_chk, Bool.and_eq_true, decide_eq_true_eq] at hchk
    obtain ⟨d, h1, h2⟩ := hchk
    cases (Nat.eq_of_beq_eq_true h1)
    show jx_KS _ _ _ _ _ _ _ _ _ _ _ _ _ _ _ _ (jx_ire x C J q K)
    unfold jx_ire
    generalize jx_x x 0 = z at h2 ⊢
    rcases z with _ | z
    · exact js_ri (C := C) (J := J) (q := q) (K := K) hq (of_decide_eq_true h2) d
    · exact js_rz (C := C) (J := J) (q := q) (K := K) hq (of_decide_eq_true h2) d
  case lreturn =>
    simp only [jx_chk, Bool.and_eq_true, decide_eq_true_eq] at hchk
    obtain ⟨d, h1, h2⟩ := hchk
    cases (Nat.eq_of_beq_eq_true h1)
    exact js_rl (C := C) (J := J) (q := q) (K := K) hq h2 d
  case areturn =>
    simp only [jx_chk, Bool.and_eq_true, decide_eq_true_eq] at hchk
    obtain ⟨d, h1, h2⟩ := hchk
    cases (Nat.eq_of_beq_eq_true h1)
    split at h2
    · exact js_rr (C := C) (J := J) (q := q) (K := K) hq (by assumption) d
    · cases h2
  case return_ =>
    simp only [jx_chk, Bool.and_eq_true, decide_eq_true_eq] at hchk
    obtain ⟨d, h1, h2⟩ := hchk
    cases (Nat.eq_of_beq_eq_true h1)
    exact js_rv (C := C) (J := J) (q := q) (K := K) hq h2 d
  all_goals (simp [jx_chk] at hchk)
end JXM
end
section
/-! WHAT A RUN OF THE PLAIN MACHINE COMES TO: the least predicate that is closed under its steps; and that it is sound -/
def jx_le (C C' : jx_C) : Prop := ∀ (y : Nat) (As : List Value) (w : jx_W) (K K' : jx_Q), (∀ w r, K w r → K' w r) → C y As w K → C' y As w K'
def jx_Mo (τ : jx_T) : Prop := ∀ (C C' : jx_C) (J J' : jx_J) (q q' : jx_Q) (k k' : jx_K), jx_le C C' → (∀ b lv st bc bs w, J b lv st bc bs w → J' b lv st bc bs w) → (∀ w r, q w r → q' w r) → (∀ lv st bc bs w, k lv st bc bs w → k' lv st bc bs w) → ∀ lv st bc bs w, τ C J q k lv st bc bs w → τ C' J' q' k' lv st bc bs w
theorem jm_bad : jx_Mo jt_bad := fun _ _ _ _ _ _ _ _ _ _ _ _ _ _ _ _ _ h => h.elim
theorem jm_c (v : Value) : jx_Mo (jt_c v) := by
  intro C C' J J' q q' k k' hC hJ hq hk lv st bc bs w h
  exact hk _ _ _ _ _ h
theorem jm_ldi (i : Nat) : jx_Mo (jt_ldi i) := by
  intro C C' J J' q q' k k' hC hJ hq hk lv st bc bs w h
  unfold jt_ldi at h ⊢
  split at h
  · exact hk _ _ _ _ _ h
  · exact h.elim
theorem jm_ldl (i : Nat) : jx_Mo (jt_ldl i) := by
  intro C C' J J' q q' k k' hC hJ hq hk lv st bc bs w h
  unfold jt_ldl at h ⊢
  split at h
  · exact hk _ _ _ _ _ h
  · exact h.elim
theorem jm_lda (i : Nat) : jx_Mo (jt_lda i) := by
  intro C C' J J' q q' k k' hC hJ hq hk lv st bc bs w h
  unfold jt_lda at h ⊢
  split at h
  · exact hk _ _ _ _ _ h
  · exact h.elim
theorem jm_inc (i : Nat) (v : Int32) : jx_Mo (jt_inc i v) := by
  intro C C' J J' q q' k k' hC hJ hq hk lv st bc bs w h
  unfold jt_inc at h ⊢
  split at h
  · exact hk _ _ _ _ _ h
  · exact h.elim
theorem jm_sti (i : Nat) : jx_Mo (jt_sti i) := by
  intro C C' J J' q q' k k' hC hJ hq hk lv st bc bs w h
  unfold jt_sti at h ⊢
  split at h
  · exact hk _ _ _ _ _ h
  · exact h.elim
theorem jm_stl (i : Nat) : jx_Mo (jt_stl i) := by
  intro C C' J J' q q' k k' hC hJ hq hk lv st bc bs w h
  unfold jt_stl at h ⊢
  split at h
  · exact hk _ _ _ _ _ h
  · exact h.elim
theorem jm_sta (i : Nat) : jx_Mo (jt_sta i) := by
  intro C C' J J' q q' k k' hC hJ hq hk lv st bc bs w h
  unfold jt_sta at h ⊢
  split at h
  · exact hk _ _ _ _ _ h
  · exact h.elim
theorem jm_ii (f : Int32 → Int32 → Int32) : jx_Mo (jt_ii f) := by
  intro C C' J J' q q' k k' hC hJ hq hk lv st bc bs w h
  unfold jt_ii at h ⊢
  split at h
  · exact hk _ _ _ _ _ h
  · exact h.elim
theorem jm_ll (f : Int64 → Int64 → Int64) : jx_Mo (jt_ll f) := by
  intro C C' J J' q q' k k' hC hJ hq hk lv st bc bs w h
  unfold jt_ll at h ⊢
  split at h
  · exact hk _ _ _ _ _ h
  · exact h.elim
theorem jm_li (f : Int64 → Int32 → Int64) : jx_Mo (jt_li f) := by
  intro C C' J J' q q' k k' hC hJ hq hk lv st bc bs w h
  unfold jt_li at h ⊢
  split at h
  · exact hk _ _ _ _ _ h
  · exact h.elim
theorem jm_lcmp : jx_Mo (jt_lcmp) := by
  intro C C' J J' q q' k k' hC hJ hq hk lv st bc bs w h
  unfold jt_lcmp at h ⊢
  split at h
  · exact hk _ _ _ _ _ h
  · exact h.elim
theorem jm_i2l : jx_Mo (jt_i2l) := by
  intro C C' J J' q q' k k' hC hJ hq hk lv st bc bs w h
  unfold jt_i2l at h ⊢
  split at h
  · exact hk _ _ _ _ _ h
  · exact h.elim
theorem jm_l2i : jx_Mo (jt_l2i) := by
  intro C C' J J' q q' k k' hC hJ hq hk lv st bc bs w h
  unfold jt_l2i at h ⊢
  split at h
  · exact hk _ _ _ _ _ h
  · exact h.elim
theorem jm_i2b : jx_Mo (jt_i2b) := by
  intro C C' J J' q q' k k' hC hJ hq hk lv st bc bs w h
  unfold jt_i2b at h ⊢
  split at h
  · exact hk _ _ _ _ _ h
  · exact h.elim
theorem jm_dup2 : jx_Mo (jt_dup2) := by
  intro C C' J J' q q' k k' hC hJ hq hk lv st bc bs w h
  unfold jt_dup2 at h ⊢
  split at h
  · exact hk _ _ _ _ _ h
  · exact h.elim
theorem jm_oi : jx_Mo (jt_oi) := by
  intro C C' J J' q q' k k' hC hJ hq hk lv st bc bs w h
  unfold jt_oi at h ⊢
  split at h
  · exact hk _ _ _ _ _ h
  · exact h.elim
theorem jm_irem : jx_Mo (jt_irem) := by
  intro C C' J J' q q' k k' hC hJ hq hk lv st bc bs w h
  unfold jt_irem at h ⊢
  split at h
  · exact ⟨h.1, hk _ _ _ _ _ h.2⟩
  · exact h.elim
theorem jm_dup : jx_Mo (jt_dup) := by
  intro C C' J J' q q' k k' hC hJ hq hk lv st bc bs w h
  unfold jt_dup at h ⊢
  split at h
  · exact hk _ _ _ _ _ h
  · exact hk _ _ _ _ _ h
  · exact h.elim
theorem jm_pop : jx_Mo (jt_pop) := by
  intro C C' J J' q q' k k' hC hJ hq hk lv st bc bs w h
  unfold jt_pop at h ⊢
  split at h
  · exact hk _ _ _ _ _ h
  · exact hk _ _ _ _ _ h
  · exact h.elim
theorem jm_if (f : Int32 → Prop) (g : Int32 → Prop) (b : Nat) : jx_Mo (jt_if f g b) := by
  intro C C' J J' q q' k k' hC hJ hq hk lv st bc bs w h
  unfold jt_if at h ⊢
  split at h
  · exact ⟨fun z => hJ _ _ _ _ _ _ (h.1 z), fun z => hk _ _ _ _ _ (h.2 z)⟩
  · exact h.elim
theorem jm_cmp (f : Int32 → Int32 → Prop) (g : Int32 → Int32 → Prop) (b : Nat) : jx_Mo (jt_cmp f g b) := by
  intro C C' J J' q q' k k' hC hJ hq hk lv st bc bs w h
  unfold jt_cmp at h ⊢
  split at h
  · exact ⟨fun z => hJ _ _ _ _ _ _ (h.1 z), fun z => hk _ _ _ _ _ (h.2 z)⟩
  · exact h.elim
theorem jm_go (b : Nat) : jx_Mo (jt_go b) := by
  intro C C' J J' q q' k k' hC hJ hq hk lv st bc bs w h
  exact hJ _ _ _ _ _ _ h
theorem jx_sw_mono {x : Int32} {lo : Int} {d : Nat} {jj jj' : Nat → Prop} (hj : ∀ b, jj b → jj' b) : ∀ (l : List Nat) (n : Int), jx_sw x lo d jj l n → jx_sw x lo d jj' l n
  | [], n, h => fun z => hj _ (h z)
  | b :: t, n, h => ⟨fun z => hj _ (h.1 z), jx_sw_mono hj t (n + 1) h.2⟩
theorem jm_sw (lo : Int) (d : Nat) (bs0 : List Nat) : jx_Mo (jt_sw lo d bs0) := by
  intro C C' J J' q q' k k' hC hJ hq hk lv st bc bs w h
  unfold jt_sw at h ⊢
  split at h
  · exact jx_sw_mono (fun b hb => hJ _ _ _ _ _ _ hb) _ _ h
  · exact h.elim
theorem jm_gfi (ci : Nat) (i : Nat) : jx_Mo (jt_gfi ci i) := by
  intro C C' J J' q q' k k' hC hJ hq hk lv st bc bs w h
  unfold jt_gfi at h ⊢
  split at h
  · obtain ⟨fs, x, h1, h2, h⟩ := h; exact ⟨fs, x, h1, h2, hk _ _ _ _ _ h⟩
  · exact h.elim
theorem jm_gfl (ci : Nat) (i : Nat) : jx_Mo (jt_gfl ci i) := by
  intro C C' J J' q q' k k' hC hJ hq hk lv st bc bs w h
  unfold jt_gfl at h ⊢
  split at h
  · obtain ⟨fs, x, h1, h2, h⟩ := h; exact ⟨fs, x, h1, h2, hk _ _ _ _ _ h⟩
  · exact h.elim
theorem jm_gfr (ci : Nat) (i : Nat) : jx_Mo (jt_gfr ci i) := by
  intro C C' J J' q q' k k' hC hJ hq hk lv st bc bs w h
  unfold jt_gfr at h ⊢
  split at h
  · obtain ⟨fs, x, h1, h2, h⟩ := h; exact ⟨fs, x, h1, h2, hk _ _ _ _ _ h⟩
  · exact h.elim
theorem jm_pfi (ci : Nat) (i : Nat) : jx_Mo (jt_pfi ci i) := by
  intro C C' J J' q q' k k' hC hJ hq hk lv st bc bs w h
  unfold jt_pfi at h ⊢
  split at h
  · obtain ⟨fs, h1, h2, h⟩ := h; exact ⟨fs, h1, h2, hk _ _ _ _ _ h⟩
  · exact h.elim
theorem jm_pfl (ci : Nat) (i : Nat) : jx_Mo (jt_pfl ci i) := by
  intro C C' J J' q q' k k' hC hJ hq hk lv st bc bs w h
  unfold jt_pfl at h ⊢
  split at h
  · obtain ⟨fs, h1, h2, h⟩ := h; exact ⟨fs, h1, h2, hk _ _ _ _ _ h⟩
  · exact h.elim
theorem jm_pfr (ci : Nat) (i : Nat) : jx_Mo (jt_pfr ci i) := by
  intro C C' J J' q q' k k' hC hJ hq hk lv st bc bs w h
  unfold jt_pfr at h ⊢
  split at h
  · obtain ⟨fs, h1, h2, h⟩ := h; exact ⟨fs, h1, h2, hk _ _ _ _ _ h⟩
  · exact h.elim
theorem jm_pfz (ci : Nat) (i : Nat) : jx_Mo (jt_pfz ci i) := by
  intro C C' J J' q q' k k' hC hJ hq hk lv st bc bs w h
  unfold jt_pfz at h ⊢
  split at h
  · obtain ⟨fs, h1, h2, h3, h⟩ := h; exact ⟨fs, h1, h2, h3, hk _ _ _ _ _ h⟩
  · exact h.elim
theorem jm_gs (i : Nat) : jx_Mo (jt_gs i) := by
  intro C C' J J' q q' k k' hC hJ hq hk lv st bc bs w h
  exact hk _ _ _ _ _ h
theorem jm_iald : jx_Mo (jt_iald) := by
  intro C C' J J' q q' k k' hC hJ hq hk lv st bc bs w h
  unfold jt_iald at h ⊢
  split at h
  · obtain ⟨n, f, h1, h2, h⟩ := h; exact ⟨n, f, h1, h2, hk _ _ _ _ _ h⟩
  · exact h.elim
theorem jm_rald : jx_Mo (jt_rald) := by
  intro C C' J J' q q' k k' hC hJ hq hk lv st bc bs w h
  unfold jt_rald at h ⊢
  split at h
  · obtain ⟨n, f, h1, h2, h⟩ := h; exact ⟨n, f, h1, h2, hk _ _ _ _ _ h⟩
  · exact h.elim
theorem jm_bald : jx_Mo (jt_bald) := by
  intro C C' J J' q q' k k' hC hJ hq hk lv st bc bs w h
  unfold jt_bald at h ⊢
  split at h
  · obtain ⟨n, f, h1, h2, h⟩ := h; exact ⟨n, f, h1, h2, hk _ _ _ _ _ h⟩
  · exact h.elim
theorem jm_iast : jx_Mo (jt_iast) := by
  intro C C' J J' q q' k k' hC hJ hq hk lv st bc bs w h
  unfold jt_iast at h ⊢
  split at h
  · obtain ⟨n, f, h1, h2, h⟩ := h; exact ⟨n, f, h1, h2, hk _ _ _ _ _ h⟩
  · exact h.elim
theorem jm_bast : jx_Mo (jt_bast) := by
  intro C C' J J' q q' k k' hC hJ hq hk lv st bc bs w h
  unfold jt_bast at h ⊢
  split at h
  · obtain ⟨n, f, h1, h2, h⟩ := h; exact ⟨n, f, h1, h2, hk _ _ _ _ _ h⟩
  · exact h.elim
theorem jm_aald (ci : Nat) : jx_Mo (jt_aald ci) := by
  intro C C' J J' q q' k k' hC hJ hq hk lv st bc bs w h
  unfold jt_aald at h ⊢
  split at h
  · obtain ⟨n, f, b, h1, h2, h3, h⟩ := h; exact ⟨n, f, b, h1, h2, h3, hk _ _ _ _ _ h⟩
  · exact h.elim
theorem jm_aast (ci : Nat) : jx_Mo (jt_aast ci) := by
  intro C C' J J' q q' k k' hC hJ hq hk lv st bc bs w h
  unfold jt_aast at h ⊢
  split at h
  · obtain ⟨n, f, b, h1, h2, h3, h⟩ := h; exact ⟨n, f, b, h1, h2, h3, hk _ _ _ _ _ h⟩
  · exact h.elim
theorem jm_ilen : jx_Mo (jt_ilen) := by
  intro C C' J J' q q' k k' hC hJ hq hk lv st bc bs w h
  unfold jt_ilen at h ⊢
  split at h
  · obtain ⟨n, f, h1, h⟩ := h; exact ⟨n, f, h1, hk _ _ _ _ _ h⟩
  · exact h.elim
theorem jm_rlen : jx_Mo (jt_rlen) := by
  intro C C' J J' q q' k k' hC hJ hq hk lv st bc bs w h
  unfold jt_rlen at h ⊢
  split at h
  · obtain ⟨n, f, h1, h⟩ := h; exact ⟨n, f, h1, hk _ _ _ _ _ h⟩
  · exact h.elim
theorem jm_blen : jx_Mo (jt_blen) := by
  intro C C' J J' q q' k k' hC hJ hq hk lv st bc bs w h
  unfold jt_blen at h ⊢
  split at h
  · obtain ⟨n, f, h1, h⟩ := h; exact ⟨n, f, h1, hk _ _ _ _ _ h⟩
  · exact h.elim
theorem jm_new (ci : Nat) (N : Nat) (fs : List Value) : jx_Mo (jt_new ci N fs) := by
  intro C C' J J' q q' k k' hC hJ hq hk lv st bc bs w h
  exact ⟨h.1, h.2.1, hk _ _ _ _ _ h.2.2⟩
theorem jm_newi : jx_Mo (jt_newi) := by
  intro C C' J J' q q' k k' hC hJ hq hk lv st bc bs w h
  unfold jt_newi at h ⊢
  split at h
  · obtain ⟨N, h1, h2, h3, h4, h⟩ := h; exact ⟨N, h1, h2, h3, h4, hk _ _ _ _ _ h⟩
  · exact h.elim
theorem jm_newb : jx_Mo (jt_newb) := by
  intro C C' J J' q q' k k' hC hJ hq hk lv st bc bs w h
  unfold jt_newb at h ⊢
  split at h
  · obtain ⟨N, h1, h2, h3, h4, h⟩ := h; exact ⟨N, h1, h2, h3, h4, hk _ _ _ _ _ h⟩
  · exact h.elim
theorem jm_newr (ci : Nat) : jx_Mo (jt_newr ci) := by
  intro C C' J J' q q' k k' hC hJ hq hk lv st bc bs w h
  unfold jt_newr at h ⊢
  split at h
  · obtain ⟨N, h1, h2, h3, h4, h⟩ := h; exact ⟨N, h1, h2, h3, h4, hk _ _ _ _ _ h⟩
  · exact h.elim
theorem jm_cpy (ty : FieldType) : jx_Mo (jt_cpy ty) := by
  intro C C' J J' q q' k k' hC hJ hq hk lv st bc bs w h
  unfold jt_cpy at h ⊢
  split at h
  · obtain ⟨n0, n1, f, g, h1, h2, h3, h4, h5, h6, h7, h8, h⟩ := h; exact ⟨n0, n1, f, g, h1, h2, h3, h4, h5, h6, h7, h8, hk _ _ _ _ _ h⟩
  · exact h.elim
theorem jm_mmin : jx_Mo (jt_mmin) := by
  intro C C' J J' q q' k k' hC hJ hq hk lv st bc bs w h
  unfold jt_mmin at h ⊢
  split at h
  · split at h
    · exact hk _ _ _ _ _ h
    · exact h.elim
  · exact h.elim
theorem jm_mmax : jx_Mo (jt_mmax) := by
  intro C C' J J' q q' k k' hC hJ hq hk lv st bc bs w h
  unfold jt_mmax at h ⊢
  split at h
  · split at h
    · exact hk _ _ _ _ _ h
    · exact h.elim
  · exact h.elim
theorem jm_ri : jx_Mo (jt_ri) := by
  intro C C' J J' q q' k k' hC hJ hq hk lv st bc bs w h
  unfold jt_ri at h ⊢
  split at h
  · exact hq _ _ h
  · exact h.elim
theorem jm_rl : jx_Mo (jt_rl) := by
  intro C C' J J' q q' k k' hC hJ hq hk lv st bc bs w h
  unfold jt_rl at h ⊢
  split at h
  · exact hq _ _ h
  · exact h.elim
theorem jm_rr : jx_Mo (jt_rr) := by
  intro C C' J J' q q' k k' hC hJ hq hk lv st bc bs w h
  unfold jt_rr at h ⊢
  split at h
  · exact hq _ _ h
  · exact h.elim
theorem jm_rv : jx_Mo (jt_rv) := by
  intro C C' J J' q q' k k' hC hJ hq hk lv st bc bs w h
  unfold jt_rv at h ⊢
  split at h
  · exact hq _ _ h
  · exact h.elim
theorem jm_rz : jx_Mo (jt_rz) := by
  intro C C' J J' q q' k k' hC hJ hq hk lv st bc bs w h
  unfold jt_rz at h ⊢
  split at h
  · exact ⟨h.1, hq _ _ h.2⟩
  · exact h.elim
theorem jx_ret_mono {k k' : List Value → jx_W → Prop} (hk : ∀ st w, k st w → k' st w) {rest : List Value} : ∀ (rk : Nat) (w : jx_W) (r : Option Value), jx_ret rk k rest w r → jx_ret rk k' rest w r
  | 0, _, _, h => ⟨h.1, hk _ _ h.2⟩
  | 1, _, _, ⟨x, h1, h⟩ => ⟨x, h1, hk _ _ h⟩
  | 2, _, _, ⟨x, h1, h⟩ => ⟨x, h1, hk _ _ h⟩
  | n + 3, _, _, ⟨x, h1, h⟩ => ⟨x, h1, hk _ _ h⟩
theorem jm_call (Tb : Nat → jx_Me) (y na rk : Nat) : jx_Mo (jt_call Tb y na rk) := by
  intro C C' J J' q q' k k' hC hJ hq hk lv st bc bs w h
  unfold jt_call at h ⊢
  split at h
  · skip

    exact hC _ _ _ _ _ (jx_ret_mono (fun _ _ hh => hk _ _ _ _ _ hh) rk) h
  · exact h.elim
theorem jm_callV (Tb : Nat → jx_Me) (ci y na rk : Nat) : jx_Mo (jt_callV Tb ci y na rk) := by
  intro C C' J J' q q' k k' hC hJ hq hk lv st bc bs w h
  unfold jt_callV at h ⊢
  split at h
  · skip

    exact ⟨h.1, hC _ _ _ _ _ (jx_ret_mono (fun _ _ hh => hk _ _ _ _ _ hh) rk) h.2⟩
  · exact h.elim
theorem jm_callA (Tb : Nat → jx_Me) (y na : Nat) : jx_Mo (jt_callA Tb y na) := by
  intro C C' J J' q q' k k' hC hJ hq hk lv st bc bs w h
  unfold jt_callA at h ⊢
  split at h
  · skip

    exact ⟨h.1, h.2.1, hC _ _ _ _ _ (fun _ _ hh => ⟨hh.1, hk _ _ _ _ _ hh.2⟩) h.2.2⟩
  · exact h.elim
set_option maxHeartbeats 4000000 in
theorem jm_tr (Tb : Nat → jx_Me) (i : jx_I) : jx_Mo (jx_tr Tb i) := by
  obtain ⟨len, ins, x⟩ := i
  cases ins
  case nop => exact jm_go _
  case iconst => exact jm_c _
  case bipush => exact jm_c _
  case sipush => exact jm_c _
  case ldc => exact jm_c _
  case ldc_w => exact jm_c _
  case ldc2_w => exact jm_c _
  case lconst => exact jm_c _
  case iload => exact jm_ldi _
  case iload_n => exact jm_ldi _
  case lload => exact jm_ldl _
  case lload_n => exact jm_ldl _
  case aload => exact jm_lda _
  case aload_n => exact jm_lda _
  case istore => exact jm_sti _
  case istore_n => exact jm_sti _
  case lstore => exact jm_stl _
  case lstore_n => exact jm_stl _
  case astore => exact jm_sta _
  case astore_n => exact jm_sta _
  case iinc => exact jm_inc _ _
  case iadd => exact jm_ii _
  case isub => exact jm_ii _
  case imul => exact jm_ii _
  case iand => exact jm_ii _
  case ior => exact jm_ii _
  case ixor => exact jm_ii _
  case ishl => exact jm_ii _
  case ishr => exact jm_ii _
  case iushr => exact jm_ii _
  case irem => exact jm_irem
  case ladd => exact jm_ll _
  case lsub => exact jm_ll _
  case lmul => exact jm_ll _
  case land => exact jm_ll _
  case lor => exact jm_ll _
  case lshl => exact jm_li _
  case lushr => exact jm_li _
  case lcmp => exact jm_lcmp
  case i2l => exact jm_i2l
  case l2i => exact jm_l2i
  case i2b => exact jm_i2b
  case dup => exact jm_dup
  case dup2 => exact jm_dup2
  case pop => exact jm_pop
  case ifCond cd off => cases cd <;> exact jm_if _ _ _
  case if_icmp cd off => cases cd <;> exact jm_cmp _ _ _
  case goto => exact jm_go _
  case tableswitch => exact jm_sw _ _ _
  case getfield =>
    show jx_Mo (jx_gf x)
    unfold jx_gf
    generalize jx_x x 0 = z
    rcases z with _ | _ | z
    · exact jm_gfi _ _
    · exact jm_gfl _ _
    · exact jm_gfr _ _
  case putfield =>
    show jx_Mo (jx_pf x)
    unfold jx_pf
    generalize jx_x x 0 = z
    rcases z with _ | _ | _ | z
    · exact jm_pfi _ _
    · exact jm_pfl _ _
    · exact jm_pfr _ _
    · exact jm_pfz _ _
  case getstatic => exact jm_gs _
  case iaload =>
    show jx_Mo (jx_al0 x)
    unfold jx_al0
    generalize jx_x x 0 = z
    rcases z with _ | z
    · exact jm_iald
    · exact jm_rald
  case baload => exact jm_bald
  case aaload => exact jm_aald _
  case iastore => exact jm_iast
  case bastore => exact jm_bast
  case aastore => exact jm_aast _
  case arraylength =>
    show jx_Mo (jx_len x)
    unfold jx_len
    generalize jx_x x 0 = z
    rcases z with _ | _ | z
    · exact jm_ilen
    · exact jm_rlen
    · exact jm_blen
  case new => exact jm_new _ _ _
  case newarray t =>
    cases t
    case int => exact jm_newi
    case byte => exact jm_newb
    all_goals exact jm_bad
  case anewarray => exact jm_newr _
  case invokevirtual => exact jm_callV _ _ _ _ _
  case invokestatic =>
    show jx_Mo (jx_ist Tb x)
    unfold jx_ist
    generalize jx_x x 0 = z
    rcases z with _ | _ | _ | _ | _ | z
    · exact jm_call _ _ _ _
    · exact jm_call _ _ _ _
    · exact jm_cpy _
    · exact jm_cpy _
    · exact jm_mmin
    · exact jm_mmax
  case invokespecial =>
    show jx_Mo (jx_isp Tb x)
    unfold jx_isp
    generalize jx_x x 0 = z
    rcases z with _ | _ | z
    · exact jm_callA _ _ _
    · exact jm_callA _ _ _
    · exact jm_oi
  case ireturn =>
    show jx_Mo (jx_ire x)
    unfold jx_ire
    generalize jx_x x 0 = z
    rcases z with _ | z
    · exact jm_ri
    · exact jm_rz
  case lreturn => exact jm_rl
  case areturn => exact jm_rr
  case return_ => exact jm_rv
  all_goals exact jm_bad
/-- a block: where it begins, the locals that it wants, its instructions -/
abbrev jx_B : Type := Nat × List Nat × List jx_I
abbrev jx_Z : Type := (Nat → jx_Mt) × (Nat → Nat → jx_B)
abbrev jx_XX : Type := Nat → Nat → jx_L → List Value → Nat → Nat → jx_W → jx_Q → Prop
def jx_cl (Z : jx_Z) (X : jx_XX) : jx_C := fun y As w K => X y 0 (jx_pick (Z.2 y 0).2.1 (lv_args 0 As)) [] (Z.1 y).1.2.2.2.2.1.1 (Z.1 y).1.2.2.2.2.1.2 w K
def jx_jp (Z : jx_Z) (X : jx_XX) (μ : Nat) (Q : jx_Q) : jx_J := fun b lv st bc bs w => X μ b (jx_pick (Z.2 μ b).2.1 lv) st bc bs w Q
def jx_blk (Tb : Nat → jx_Me) (C : jx_C) (J : jx_J) (q : jx_Q) (is : List jx_I) : jx_K := is.foldr (fun i k => jx_tr Tb i C J q k) (fun _ _ _ _ _ => False)
def jx_step (Z : jx_Z) (X : jx_XX) : jx_XX := fun μ b lv st bc bs w Q => jx_blk (jx_Tb Z.1) (jx_cl Z X) (jx_jp Z X μ Q) Q (Z.2 μ b).2.2 lv st bc bs w
def jx_mono (X : jx_XX) : Prop := ∀ (μ b : Nat) (lv : jx_L) (st : List Value) (bc bs : Nat) (w : jx_W) (Q Q' : jx_Q), (∀ w r, Q w r → Q' w r) → X μ b lv st bc bs w Q → X μ b lv st bc bs w Q'
def jx_wp (Z : jx_Z) : jx_XX := fun μ b lv st bc bs w Q => ∀ X : jx_XX, jx_mono X → (∀ (μ b : Nat) (lv : jx_L) (st : List Value) (bc bs : Nat) (w : jx_W) (Q : jx_Q), jx_step Z X μ b lv st bc bs w Q → X μ b lv st bc bs w Q) → X μ b lv st bc bs w Q
theorem jx_wp_mono (Z : jx_Z) : jx_mono (jx_wp Z) := fun μ b lv st bc bs w Q Q' hQ h X hm hc => hm μ b lv st bc bs w Q Q' hQ (h X hm hc)
theorem jx_blk_mono {Tb : Nat → jx_Me} {C C' : jx_C} {J J' : jx_J} {q : jx_Q} (hC : jx_le C C') (hJ : ∀ b lv st bc bs w, J b lv st bc bs w → J' b lv st bc bs w) : ∀ (is : List jx_I) (lv : jx_L) (st : List Value) (bc bs : Nat) (w : jx_W), jx_blk Tb C J q is lv st bc bs w → jx_blk Tb C' J' q is lv st bc bs w
  | [], _, _, _, _, _, h => h
  | i :: t, lv, st, bc, bs, w, h => jm_tr Tb i C C' J J' q q _ _ hC hJ (fun _ _ z => z) (jx_blk_mono hC hJ t) lv st bc bs w h
/-- ONE STEP: a block's condition, over what runs come to, is what a run from it comes to -/
theorem jx_unfold {Z : jx_Z} {μ b : Nat} {lv : jx_L} {st : List Value} {bc bs : Nat} {w : jx_W} {Q : jx_Q} (h : jx_step Z (jx_wp Z) μ b lv st bc bs w Q) : jx_wp Z μ b lv st bc bs w Q := by
  intro X hm hc
  refine hc μ b lv st bc bs w Q (jx_blk_mono ?_ ?_ _ lv st bc bs w h)
  · intro y As w K K' hK h1
    exact hm _ _ _ _ _ _ _ K K' hK (h1 X hm hc)
  · intro b lv st bc bs w h1
    exact h1 X hm hc
def jx_sim (l : Launch) (Z : jx_Z) : jx_XX := fun μ b lv st bc bs w Q => ∀ (G : jx_G) (p : Program) (e : Env) (s : State) (m : MethodId) (args : Array Value) (below : List Frame) (meth : Method) (c : Code) (Φ : State → Prop),
  jx_X p s m args meth c (jx_rm (Z.1 μ).1) G (Z.1 μ).1.1.cls (Z.1 μ).1.1.name (Z.1 μ).1.2.1 (Z.1 μ).1.2.2.1 (Z.1 μ).1.2.2.2.2.1.1 (Z.1 μ).1.2.2.2.2.1.2 →
  jx_RS p l e (jx_rm (Z.1 μ).1) s m args below meth c Φ G (Z.1 μ).1.2.2.2.2.1.1 (Z.1 μ).1.2.2.2.2.1.2 (Z.1 μ).1.2.1 (Z.1 μ).1.2.2.2.1 Q →
  ∀ (H : Heap) (locs : List Loc) (cells slots : Nat) (ls : Array Slot), va_S (jx_A G) s.heap H locs → jx_H G s w H → lv_has ls (Z.1 μ).1.2.2.1 lv → cells + bc = (Z.1 μ).1.2.2.2.2.1.1 → slots + bs = (Z.1 μ).1.2.2.2.2.1.2 → W p l e (jx_rm (Z.1 μ).1) s m args below meth c H locs cells slots Φ (F0 m (Z.2 μ b).1 ls st)
theorem jx_sim_mono (l : Launch) (Z : jx_Z) : jx_mono (jx_sim l Z) := fun μ b lv st bc bs w Q Q' hQ h G p e s m args below meth c Φ X hR H locs cells slots ls hS hH hl hc hs => h G p e s m args below meth c Φ X (fun H locs ls pc w r hS hH hq hd => hR H locs ls pc w r hS hH (hQ w r hq) hd) H locs cells slots ls hS hH hl hc hs
def jx_bchk (nM : Nat) (Mt : Nat → jx_Mt) (tg : Nat → Nat) (M : jx_Me) : Nat → List jx_I → Bool
  | _, [] => true
  | pc, i :: t => jx_chk nM Mt tg M pc i && jx_bchk nM Mt tg M (pc + i.1) t
def jx_valid (Z : jx_Z) (nM : Nat) : Prop := (∀ y, y < nM → jx_mchk (Z.1 y) = true) ∧ ∀ μ : Nat, plainName (Z.1 μ).1.1.cls = true ∧ (Z.2 μ 0).1 = 0 ∧ ∀ b : Nat, jx_bchk nM Z.1 (fun b => (Z.2 μ b).1) (Z.1 μ).1 (Z.2 μ b).1 (Z.2 μ b).2.2 = true
theorem jx_met {l : Launch} {Z : jx_Z} {nM : Nat} (hv : jx_valid Z nM) (G : jx_G) : jx_CS l G (jx_Tb Z.1) (jx_cl Z (jx_sim l Z)) := by
  intro y As w K hlen h
  unfold jx_Met
  refine Met.ofW (cc := (Z.1 y).1.2.1) (maxL := (Z.1 y).1.2.2.1) (ret := (Z.1 y).1.2.2.2.1) (hv.2 y).1 rfl ?_
  intro p e s m args below meth c s₁ B hml hpc
  obtain ⟨rfl, hF, hH⟩ := hpc
  have hts := atoms_spec (ws := jx_ws (Z.1 y).1) B.pre
  have X : jx_X p s m As.toArray meth c (jx_rm (Z.1 y).1) G (Z.1 y).1.1.cls (Z.1 y).1.1.name (Z.1 y).1.2.1 (Z.1 y).1.2.2.1 (Z.1 y).1.2.2.2.2.1.1 (Z.1 y).1.2.2.2.2.1.2 := ⟨B.exec, B.bytes, hml, findClass_of_methodNamed B.named, fun w hw => hts w (List.mem_cons_of_mem _ hw), (name_of_methodNamed B.named B.method).1, hF, rfl, rfl⟩
  have hl := lv_entry As (n := (Z.1 y).1.2.2.1) hlen
  show W p l e _ s m As.toArray below meth c s.heap [] 0 0 _ (entryFrame m As.toArray (Z.1 y).1.2.2.1)
  rw [lg_entry_eq]
  have h1 := h G p e s m As.toArray below meth c _ X (jx_RS_of X B.returns B.notSynchronized) s.heap [] 0 0 _ va_S.rf hH (jx_pick_has hl _) (Nat.zero_add _) (Nat.zero_add _)
  rw [(hv.2 y).2.1] at h1
  exact h1
theorem jx_sim_step {l : Launch} {Z : jx_Z} {nM : Nat} (hv : jx_valid Z nM) (μ b : Nat) (lv : jx_L) (st : List Value) (bc bs : Nat) (w : jx_W) (Q : jx_Q) (h : jx_step Z (jx_sim l Z) μ b lv st bc bs w Q) : jx_sim l Z μ b lv st bc bs w Q := by
  intro G p e s m args below meth c Φ X hR H locs cells slots ls hS hH hl hc hs
  have hj : ∀ b, jx_KS p l e (jx_rm (Z.1 μ).1) s m args below meth c Φ G (Z.1 μ).1.2.2.1 (Z.1 μ).1.2.2.2.2.1.1 (Z.1 μ).1.2.2.2.2.1.2 ((fun b => (Z.2 μ b).1) b) (jx_jp Z (jx_sim l Z) μ Q b) := fun b H locs cells slots ls lv st bc bs w hS hH hl hc hs hh => hh G p e s m args below meth c Φ X hR H locs cells slots ls hS hH (jx_pick_has hl _) hc hs
  have key : ∀ (is : List jx_I) (pc : Nat), jx_bchk nM Z.1 (fun b => (Z.2 μ b).1) (Z.1 μ).1 pc is = true → jx_KS p l e (jx_rm (Z.1 μ).1) s m args below meth c Φ G (Z.1 μ).1.2.2.1 (Z.1 μ).1.2.2.2.2.1.1 (Z.1 μ).1.2.2.2.2.1.2 pc (jx_blk (jx_Tb Z.1) (jx_cl Z (jx_sim l Z)) (jx_jp Z (jx_sim l Z) μ Q) Q is) := by
    intro is
    induction is with
    | nil => intro pc _ H locs cells slots ls lv st bc bs w _ _ _ _ _ hh; exact hh.elim
    | cons i t ih =>
      intro pc hb
      unfold jx_bchk at hb
      simp only [Bool.and_eq_true] at hb
      exact jx_chk_ok X hv.1 (jx_met hv G) hR hj hb.1 (ih (pc + i.1) hb.2)
  exact key _ _ ((hv.2 μ).2.2 b) H locs cells slots ls lv st bc bs w hS hH hl hc hs h
/-- THE SIMULATION -/
theorem jx_sound {l : Launch} {Z : jx_Z} {nM : Nat} (hv : jx_valid Z nM) {μ b : Nat} {lv : jx_L} {st : List Value} {bc bs : Nat} {w : jx_W} {Q : jx_Q} (h : jx_wp Z μ b lv st bc bs w Q) : jx_sim l Z μ b lv st bc bs w Q := h (jx_sim l Z) (jx_sim_mono l Z) (jx_sim_step hv)
end
section
/-! THE CLAIM'S METHODS AS DATA OF THE PLAIN MACHINE (written by wip/whole/gen/gen3.py) -/
abbrev n_T_clear : Nat := 0
abbrev n_T_dropOldest : Nat := 1
abbrev n_T_flow : Nat := 2
abbrev n_T_isKey : Nat := 3
abbrev n_T_isLetter : Nat := 4
abbrev n_T_isWord : Nat := 5
abbrev n_T_mixed : Nat := 6
abbrev n_T_type : Nat := 7
abbrev n_A_has : Nat := 8
abbrev n_A_nextOf : Nat := 9
abbrev n_A_nextSet : Nat := 10
abbrev n_A_wordsOfSet : Nat := 11
abbrev n_Fi_add : Nat := 12
abbrev n_Fi_made : Nat := 13
abbrev n_Fl_isPreferred : Nat := 14
abbrev n_R_firstIndexOf : Nat := 15
abbrev n_R_hexadecimal : Nat := 16
abbrev n_R_isDropped : Nat := 17
abbrev n_R_recentCharacter : Nat := 18
abbrev n_R_restart : Nat := 19
abbrev n_Sg_covers : Nat := 20
abbrev n_Sg_isFull : Nat := 21
abbrev n_St_movedToEnd : Nat := 22
abbrev n_St_placeOf : Nat := 23
abbrev n_Wo_isDefined : Nat := 24
abbrev n_Wo_letterAt : Nat := 25
abbrev n_Wo_remove : Nat := 26
abbrev n_M_adds : Nat := 27
abbrev n_M_clear : Nat := 28
abbrev n_M_copies : Nat := 29
abbrev n_M_freeSlot : Nat := 30
abbrev n_M_highOf : Nat := 31
abbrev n_M_in : Nat := 32
abbrev n_M_leaves : Nat := 33
abbrev n_M_letterOf : Nat := 34
abbrev n_M_lowOf : Nat := 35
abbrev n_M_nodeOf : Nat := 36
abbrev n_M_of : Nat := 37
abbrev n_M_order : Nat := 38
abbrev n_M_pieceAt : Nat := 39
abbrev n_M_put : Nat := 40
abbrev n_M_slot : Nat := 41
abbrev n_M_takes : Nat := 42
abbrev n_M_wordLength : Nat := 43
abbrev n_JI_bitCount : Nat := 44
abbrev n_JL_bitCount : Nat := 45
abbrev n_JA_fill : Nat := 46
abbrev n_T_firstWrongByte : Nat := 47
abbrev n_T_letter : Nat := 48
abbrev n_T_next : Nat := 49
abbrev n_T_node : Nat := 50
abbrev n_T_possible : Nat := 51
abbrev n_T_read : Nat := 52
abbrev n_T_segmentError : Nat := 53
abbrev n_A_init : Nat := 54
abbrev n_A_added : Nat := 55
abbrev n_A_link : Nat := 56
abbrev n_A_nextSetByAny : Nat := 57
abbrev n_Fi_init : Nat := 58
abbrev n_Fi_copyFrom : Nat := 59
abbrev n_Fi_remembered : Nat := 60
abbrev n_Fl_chosenPiece : Nat := 61
abbrev n_R_init : Nat := 62
abbrev n_R_begin : Nat := 63
abbrev n_R_come : Nat := 64
abbrev n_R_copyFrom : Nat := 65
abbrev n_Sg_init : Nat := 66
abbrev n_Sg_byteFor : Nat := 67
abbrev n_Sg_isCoveredBefore : Nat := 68
abbrev n_Sg_put : Nat := 69
abbrev n_Sg_smallestStart : Nat := 70
abbrev n_St_remove : Nat := 71
abbrev n_Wo_init : Nat := 72
abbrev n_Wo_copyFrom : Nat := 73
abbrev n_Wo_definedSet : Nat := 74
abbrev n_Wo_put : Nat := 75
abbrev n_M_begins : Nat := 76
abbrev n_M_byteOf : Nat := 77
abbrev n_M_covers : Nat := 78
abbrev n_M_definedSet : Nat := 79
abbrev n_M_drops : Nat := 80
abbrev n_M_endsWith : Nat := 81
abbrev n_M_faultOf : Nat := 82
abbrev n_M_find : Nat := 83
abbrev n_M_flow : Nat := 84
abbrev n_M_has : Nat := 85
abbrev n_M_hexOf : Nat := 86
abbrev n_M_inserts : Nat := 87
abbrev n_M_isBetter : Nat := 88
abbrev n_M_isPossible : Nat := 89
abbrev n_M_isWord : Nat := 90
abbrev n_M_laysPossible : Nat := 91
abbrev n_M_longest : Nat := 92
abbrev n_M_next : Nat := 93
abbrev n_M_node : Nat := 94
abbrev n_M_placeOf : Nat := 95
abbrev n_M_possibleNow : Nat := 96
abbrev n_M_readNow : Nat := 97
abbrev n_M_records : Nat := 98
abbrev n_M_starts : Nat := 99
abbrev n_M_type : Nat := 100
abbrev n_T_told : Nat := 101
abbrev n_A_addChildren : Nat := 102
abbrev n_A_fewestLettersToWord : Nat := 103
abbrev n_A_spread : Nat := 104
abbrev n_Fi_tell : Nat := 105
abbrev n_Fl_init : Nat := 106
abbrev n_Fl_begin : Nat := 107
abbrev n_Fl_chosenByte : Nat := 108
abbrev n_Fl_isDisputed : Nat := 109
abbrev n_R_release : Nat := 110
abbrev n_Sg_add : Nat := 111
abbrev n_Sg_coveredFrom : Nat := 112
abbrev n_Sg_dropBefore : Nat := 113
abbrev n_M_asked : Nat := 114
abbrev n_M_chosen : Nat := 115
abbrev n_M_isConflict : Nat := 116
abbrev n_M_lays : Nat := 117
abbrev n_M_letter : Nat := 118
abbrev n_M_possibleMany : Nat := 119
abbrev n_M_set : Nat := 120
abbrev n_M_steps : Nat := 121
abbrev n_M_told : Nat := 122
abbrev n_M_wrong : Nat := 123
abbrev n_T_byteAt : Nat := 124
abbrev n_T_find : Nat := 125
abbrev n_T_nearest : Nat := 126
abbrev n_A_build : Nat := 127
abbrev n_Fl_end : Nat := 128
abbrev n_Fl_tell : Nat := 129
abbrev n_R_skip : Nat := 130
abbrev n_R_take : Nat := 131
abbrev n_Sg_copyFrom : Nat := 132
abbrev n_St_init : Nat := 133
abbrev n_St_flowOfSegment : Nat := 134
abbrev n_M_init : Nat := 135
abbrev n_M_byteNow : Nat := 136
abbrev n_M_covered : Nat := 137
abbrev n_M_nearest : Nat := 138
abbrev n_M_others : Nat := 139
abbrev n_M_possible : Nat := 140
abbrev n_M_read : Nat := 141
abbrev n_M_reads : Nat := 142
abbrev n_M_undo : Nat := 143
abbrev n_T_init : Nat := 144
abbrev n_T_mixedWithFlow : Nat := 145
abbrev n_T_property : Nat := 146
abbrev n_T_undo : Nat := 147
abbrev n_T_wordsChanged : Nat := 148
abbrev n_Fl_copyFrom : Nat := 149
abbrev n_Fl_deliver : Nat := 150
abbrev n_Fl_skipGap : Nat := 151
abbrev n_M_byteAt : Nat := 152
abbrev n_M_character : Nat := 153
abbrev n_M_define : Nat := 154
abbrev n_M_forget : Nat := 155
abbrev n_M_propertyNow : Nat := 156
abbrev n_T_digest : Nat := 157
abbrev n_Fl_accept : Nat := 158
abbrev n_St_copyFrom : Nat := 159
abbrev n_M_lets : Nat := 160
abbrev n_M_mixedFlow : Nat := 161
abbrev n_M_property : Nat := 162
abbrev n_T_handled : Nat := 163
abbrev n_T_record : Nat := 164
abbrev n_T_wordsBy : Nat := 165
abbrev n_M_delivers : Nat := 166
abbrev n_M_digest : Nat := 167
abbrev n_M_finish : Nat := 168
abbrev n_M_gap : Nat := 169
abbrev n_T_define : Nat := 170
abbrev n_T_evasions : Nat := 171
abbrev n_T_finish : Nat := 172
abbrev n_T_forget : Nat := 173
abbrev n_T_ifSegment : Nat := 174
abbrev n_T_replay : Nat := 175
abbrev n_T_segment : Nat := 176
abbrev n_T_set : Nat := 177
abbrev n_M_deliversAll : Nat := 178
abbrev n_M_handles : Nat := 179
abbrev n_M_handlesText : Nat := 180
abbrev n_M_replays : Nat := 181
abbrev n_M_evasions : Nat := 182
abbrev n_M_replay : Nat := 183
abbrev n_M_segments : Nat := 184
abbrev n_M_ifSegment : Nat := 185
abbrev n_M_segment : Nat := 186
abbrev n_L_law : Nat := 187
def bk_T_clear : List jx_B := [
  (0, [0], [(1, .aload_n 0, []), (3, .getfield 13, [0, 7, 1, 357]), (1, .istore_n 1, []), (1, .aload_n 0, []), (1, .iconst 0, [0, 0]), (3, .putfield 13, [0, 7, 1, 357]), (1, .iload_n 1, []), (1, .ireturn, [0])])]
def bk_T_dropOldest : List jx_B := [
  (0, [0], [(1, .aload_n 0, []), (3, .getfield 46, [2, 7, 6, 362]), (1, .iconst 0, [0, 0]), (1, .aaload, [5]), (1, .astore_n 1, []), (1, .iconst 1, [0, 1]), (1, .istore_n 2, []), (0, .nop, [1])]),
  (9, [0, 1, 2], [(1, .iload_n 2, []), (1, .iconst 4, [0, 4]), (3, .if_icmp .ge 23, [2]), (1, .aload_n 0, []), (3, .getfield 46, [2, 7, 6, 362]), (1, .iload_n 2, []), (1, .iconst 1, [0, 1]), (1, .isub, []), (1, .aload_n 0, []), (3, .getfield 46, [2, 7, 6, 362]), (1, .iload_n 2, []), (1, .aaload, [5]), (1, .aastore, [5]), (3, .iinc 2 1, [0, 1]), (3, .goto (-22), [1])]),
  (34, [0, 1], [(1, .aload_n 0, []), (3, .getfield 46, [2, 7, 6, 362]), (1, .iconst 3, [0, 3]), (1, .aload_n 1, []), (1, .aastore, [5]), (1, .aload_n 0, []), (1, .iconst 3, [0, 3]), (3, .putfield 50, [0, 7, 7, 363]), (1, .return_, [])])]
def bk_T_flow : List jx_B := [
  (0, [0, 1], [(1, .iload_n 1, []), (3, .ifCond .ge 5, [1]), (1, .iconst (-1), [1, 1]), (1, .ireturn, [0])]),
  (6, [0, 1], [(1, .iload_n 1, []), (1, .aload_n 0, []), (3, .getfield 32, [2, 7, 3, 359]), (3, .getfield 151, [0, 5, 4, 337]), (3, .if_icmp .ge 23, [2]), (1, .iload_n 1, []), (1, .iconst 4, [0, 4]), (3, .if_icmp .ge 18, [2]), (1, .aload_n 0, []), (3, .getfield 32, [2, 7, 3, 359]), (3, .getfield 143, [2, 5, 3, 335]), (1, .iload_n 1, []), (1, .aaload, [2]), (3, .getfield 154, [0, 2, 0, 286]), (3, .goto 5, [3])]),
  (37, [], [(2, .bipush (-9), [1, 9]), (0, .nop, [3])]),
  (39, [], [(1, .ireturn, [0])])]
def bk_T_isKey : List jx_B := [
  (0, [0], [(1, .iload_n 0, []), (3, .ifCond .lt 13, [1]), (1, .iload_n 0, []), (2, .bipush 100, [0, 100]), (3, .if_icmp .ge 7, [1]), (1, .iconst 1, [0, 1]), (3, .goto 4, [2])]),
  (14, [], [(1, .iconst 0, [0, 0]), (0, .nop, [2])]),
  (15, [], [(1, .ireturn, [1])])]
def bk_T_isLetter : List jx_B := [
  (0, [0], [(1, .iload_n 0, []), (2, .bipush 97, [0, 97]), (3, .if_icmp .lt 13, [1]), (1, .iload_n 0, []), (2, .bipush 122, [0, 122]), (3, .if_icmp .gt 7, [1]), (1, .iconst 1, [0, 1]), (3, .goto 4, [2])]),
  (16, [], [(1, .iconst 0, [0, 0]), (0, .nop, [2])]),
  (17, [], [(1, .ireturn, [1])])]
def bk_T_isWord : List jx_B := [
  (0, [0], [(1, .iload_n 0, []), (3, .ifCond .lt 13, [1]), (1, .iload_n 0, []), (2, .bipush 6, [0, 6]), (3, .if_icmp .ge 7, [1]), (1, .iconst 1, [0, 1]), (3, .goto 4, [2])]),
  (14, [], [(1, .iconst 0, [0, 0]), (0, .nop, [2])]),
  (15, [], [(1, .ireturn, [1])])]
def bk_T_mixed : List jx_B := [
  (0, [0, 2], [(3, .ldc2_w 233, [0, 31, 804]), (1, .lload_n 0, []), (1, .lmul, []), (1, .lload_n 2, []), (1, .ladd, []), (1, .lreturn, [])])]
def bk_T_type : List jx_B := [
  (0, [0, 1], [(1, .iload_n 1, []), (2, .bipush 32, [0, 32]), (3, .if_icmp .lt 9, [1]), (1, .iload_n 1, []), (2, .bipush 126, [0, 126]), (3, .if_icmp .le 5, [2]), (0, .nop, [1])]),
  (12, [], [(1, .iconst (-1), [1, 1]), (1, .ireturn, [0])]),
  (14, [0, 1], [(1, .aload_n 0, []), (3, .getfield 13, [0, 7, 1, 357]), (2, .bipush 40, [0, 40]), (3, .if_icmp .lt 6, [3]), (2, .bipush (-3), [1, 3]), (1, .ireturn, [0])]),
  (26, [0, 1], [(1, .aload_n 0, []), (3, .getfield 9, [2, 7, 0, 356]), (1, .aload_n 0, []), (3, .getfield 13, [0, 7, 1, 357]), (1, .iload_n 1, []), (1, .i2b, []), (1, .bastore, []), (1, .aload_n 0, []), (1, .dup, []), (3, .getfield 13, [0, 7, 1, 357]), (1, .iconst 1, [0, 1]), (1, .iadd, []), (3, .putfield 13, [0, 7, 1, 357]), (1, .aload_n 0, []), (3, .getfield 13, [0, 7, 1, 357]), (1, .ireturn, [0])])]
def bk_A_has : List jx_B := [
  (0, [0, 1], [(1, .iload_n 1, []), (3, .ifCond .lt 15, [1]), (1, .iload_n 1, []), (1, .aload_n 0, []), (3, .getfield 9, [0, 0, 0, 103]), (3, .if_icmp .ge 7, [1]), (1, .iconst 1, [0, 1]), (3, .goto 4, [2])]),
  (16, [], [(1, .iconst 0, [0, 0]), (0, .nop, [2])]),
  (17, [], [(1, .ireturn, [1])])]
def bk_A_nextOf : List jx_B := [
  (0, [0, 1, 2], [(1, .aload_n 0, []), (3, .getfield 34, [2, 0, 7, 118]), (1, .iload_n 1, []), (2, .bipush 26, [0, 26]), (1, .imul, []), (1, .iload_n 2, []), (1, .iadd, []), (1, .iaload, [0]), (1, .ireturn, [0])])]
def bk_A_nextSet : List jx_B := [
  (0, [0, 1, 3], [(1, .lconst 0, []), (2, .lstore 4, []), (1, .iconst 0, [0, 0]), (2, .istore 6, []), (0, .nop, [1])]),
  (6, [0, 1, 3, 4, 6], [(2, .iload 6, []), (1, .aload_n 0, []), (3, .getfield 9, [0, 0, 0, 103]), (3, .if_icmp .ge 39, [3]), (1, .lload_n 1, []), (2, .iload 6, []), (1, .lushr, []), (1, .lconst 1, []), (1, .land, []), (1, .lconst 0, []), (1, .lcmp, []), (3, .ifCond .eq 22, [2]), (2, .lload 4, []), (1, .lconst 1, []), (1, .aload_n 0, []), (3, .getfield 34, [2, 0, 7, 118]), (2, .iload 6, []), (2, .bipush 26, [0, 26]), (1, .imul, []), (1, .iload_n 3, []), (1, .iadd, []), (1, .iaload, [0]), (1, .lshl, []), (1, .lor, []), (2, .lstore 4, []), (0, .nop, [2])]),
  (45, [0, 1, 3, 4, 6], [(3, .iinc 6 1, [0, 1]), (3, .goto (-42), [1])]),
  (51, [4], [(2, .lload 4, []), (1, .lreturn, [])])]
def bk_A_wordsOfSet : List jx_B := [
  (0, [0, 1], [(1, .iconst 0, [0, 0]), (1, .istore_n 3, []), (1, .iconst 0, [0, 0]), (2, .istore 4, []), (0, .nop, [1])]),
  (5, [0, 1, 3, 4], [(2, .iload 4, []), (1, .aload_n 0, []), (3, .getfield 9, [0, 0, 0, 103]), (3, .if_icmp .ge 30, [3]), (1, .lload_n 1, []), (2, .iload 4, []), (1, .lushr, []), (1, .lconst 1, []), (1, .land, []), (1, .lconst 0, []), (1, .lcmp, []), (3, .ifCond .eq 13, [2]), (1, .iload_n 3, []), (1, .aload_n 0, []), (3, .getfield 28, [2, 0, 5, 113]), (2, .iload 4, []), (1, .iaload, [0]), (1, .ior, []), (1, .istore_n 3, []), (0, .nop, [2])]),
  (35, [0, 1, 3, 4], [(3, .iinc 4 1, [0, 1]), (3, .goto (-33), [1])]),
  (41, [3], [(1, .iload_n 3, []), (1, .ireturn, [0])])]
def bk_Fi_add : List jx_B := [
  (0, [0, 1, 2, 3, 4], [(1, .aload_n 0, []), (3, .getfield 9, [0, 1, 0, 149]), (1, .aload_n 0, []), (3, .getfield 15, [0, 1, 1, 151]), (1, .iadd, []), (2, .bipush 30, [0, 30]), (1, .irem, []), (2, .istore 5, []), (1, .aload_n 0, []), (3, .getfield 18, [2, 1, 2, 153]), (2, .iload 5, []), (1, .iload_n 1, []), (1, .iastore, []), (1, .aload_n 0, []), (3, .getfield 22, [2, 1, 3, 154]), (2, .iload 5, []), (1, .iload_n 2, []), (1, .iastore, []), (1, .aload_n 0, []), (3, .getfield 25, [2, 1, 4, 155]), (2, .iload 5, []), (1, .iload_n 3, []), (1, .iastore, []), (1, .aload_n 0, []), (3, .getfield 28, [2, 1, 5, 156]), (2, .iload 5, []), (2, .iload 4, []), (1, .iastore, []), (1, .iload_n 3, []), (2, .bipush (-9), [1, 9]), (3, .if_icmp .ne 16, [1]), (1, .aload_n 0, []), (1, .dup, []), (3, .getfield 15, [0, 1, 1, 151]), (1, .iconst 1, [0, 1]), (1, .iadd, []), (3, .putfield 15, [0, 1, 1, 151]), (3, .goto 13, [2])]),
  (66, [0], [(1, .aload_n 0, []), (1, .dup, []), (3, .getfield 9, [0, 1, 0, 149]), (1, .iconst 1, [0, 1]), (1, .iadd, []), (3, .putfield 9, [0, 1, 0, 149]), (0, .nop, [2])]),
  (76, [], [(1, .return_, [])])]
def bk_Fi_made : List jx_B := [
  (0, [0], [(1, .aload_n 0, []), (3, .getfield 9, [0, 1, 0, 149]), (1, .aload_n 0, []), (3, .getfield 15, [0, 1, 1, 151]), (1, .iadd, []), (1, .ireturn, [0])])]
def bk_Fl_isPreferred : List jx_B := [
  (0, [0, 1, 2], [(1, .aload_n 0, []), (3, .getfield 36, [0, 2, 1, 287]), (28, .tableswitch 84 1 3 #[28, 30, 57], [8, 1, 2, 5])]),
  (32, [], [(1, .iconst 1, [0, 1]), (1, .ireturn, [1])]),
  (34, [0, 1, 2], [(1, .aload_n 0, []), (3, .getfield 14, [2, 2, 4, 292]), (3, .getfield 121, [2, 4, 1, 205]), (1, .iload_n 1, []), (1, .iaload, [0]), (1, .aload_n 0, []), (3, .getfield 14, [2, 2, 4, 292]), (3, .getfield 121, [2, 4, 1, 205]), (1, .iload_n 2, []), (1, .iaload, [0]), (3, .if_icmp .ge 7, [3]), (1, .iconst 1, [0, 1]), (3, .goto 4, [4])]),
  (59, [], [(1, .iconst 0, [0, 0]), (0, .nop, [4])]),
  (60, [], [(1, .ireturn, [1])]),
  (61, [0, 1, 2], [(1, .aload_n 0, []), (3, .getfield 14, [2, 2, 4, 292]), (3, .getfield 125, [2, 4, 2, 208]), (1, .iload_n 1, []), (1, .iaload, [0]), (1, .aload_n 0, []), (3, .getfield 14, [2, 2, 4, 292]), (3, .getfield 125, [2, 4, 2, 208]), (1, .iload_n 2, []), (1, .iaload, [0]), (3, .if_icmp .le 7, [6]), (1, .iconst 1, [0, 1]), (3, .goto 4, [7])]),
  (86, [], [(1, .iconst 0, [0, 0]), (0, .nop, [7])]),
  (87, [], [(1, .ireturn, [1])]),
  (88, [], [(1, .iconst 0, [0, 0]), (1, .ireturn, [1])])]
def bk_R_firstIndexOf : List jx_B := [
  (0, [0, 1], [(1, .aload_n 0, []), (3, .getfield 40, [0, 3, 11, 245]), (1, .iload_n 1, []), (1, .isub, []), (1, .istore_n 2, []), (1, .iload_n 2, []), (3, .ifCond .ge 7, [1]), (1, .iconst 0, [0, 0]), (3, .goto 12, [2])]),
  (15, [0, 2], [(1, .aload_n 0, []), (3, .getfield 15, [2, 3, 10, 244]), (1, .iload_n 2, []), (2, .bipush 8, [0, 8]), (1, .irem, []), (1, .iaload, [0]), (0, .nop, [2])]),
  (24, [], [(1, .ireturn, [0])])]
def bk_R_hexadecimal : List jx_B := [
  (0, [0], [(1, .iload_n 0, []), (2, .bipush 48, [0, 48]), (3, .if_icmp .lt 14, [1]), (1, .iload_n 0, []), (2, .bipush 57, [0, 57]), (3, .if_icmp .gt 8, [1]), (1, .iload_n 0, []), (2, .bipush 48, [0, 48]), (1, .isub, []), (1, .ireturn, [0])]),
  (17, [0], [(1, .iload_n 0, []), (2, .bipush 65, [0, 65]), (3, .if_icmp .lt 17, [2]), (1, .iload_n 0, []), (2, .bipush 70, [0, 70]), (3, .if_icmp .gt 11, [2]), (1, .iload_n 0, []), (2, .bipush 65, [0, 65]), (1, .isub, []), (2, .bipush 10, [0, 10]), (1, .iadd, []), (1, .ireturn, [0])]),
  (37, [0], [(1, .iload_n 0, []), (2, .bipush 97, [0, 97]), (3, .if_icmp .lt 19, [3]), (1, .iload_n 0, []), (2, .bipush 102, [0, 102]), (3, .if_icmp .gt 13, [3]), (1, .iload_n 0, []), (2, .bipush 97, [0, 97]), (1, .isub, []), (2, .bipush 10, [0, 10]), (1, .iadd, []), (3, .goto 4, [4])]),
  (59, [], [(1, .iconst (-1), [1, 1]), (0, .nop, [4])]),
  (60, [], [(1, .ireturn, [0])])]
def bk_R_isDropped : List jx_B := [
  (0, [0, 1], [(1, .aload_n 0, []), (3, .getfield 30, [0, 3, 3, 230]), (2, .bipush 8, [0, 8]), (1, .iand, []), (3, .ifCond .eq 17, [2]), (1, .iload_n 1, []), (2, .bipush 45, [0, 45]), (3, .if_icmp .eq 9, [1]), (1, .iload_n 1, []), (2, .bipush 46, [0, 46]), (3, .if_icmp .ne 5, [2]), (0, .nop, [1])]),
  (22, [], [(1, .iconst 1, [0, 1]), (1, .ireturn, [1])]),
  (24, [0, 1], [(1, .aload_n 0, []), (3, .getfield 30, [0, 3, 3, 230]), (1, .iconst 4, [0, 4]), (1, .iand, []), (3, .ifCond .eq 20, [3]), (1, .iload_n 1, []), (2, .bipush 32, [0, 32]), (3, .if_icmp .ne 14, [3]), (1, .aload_n 0, []), (3, .getfield 36, [0, 3, 6, 236]), (3, .ifCond .eq 7, [3]), (1, .iconst 1, [0, 1]), (3, .goto 4, [4])]),
  (50, [], [(1, .iconst 0, [0, 0]), (0, .nop, [4])]),
  (51, [], [(1, .ireturn, [1])])]
def bk_R_recentCharacter : List jx_B := [
  (0, [0, 1], [(1, .iload_n 1, []), (1, .aload_n 0, []), (3, .getfield 40, [0, 3, 11, 245]), (3, .if_icmp .ge 22, [1]), (1, .aload_n 0, []), (3, .getfield 9, [2, 3, 9, 243]), (1, .aload_n 0, []), (3, .getfield 40, [0, 3, 11, 245]), (1, .iconst 1, [0, 1]), (1, .isub, []), (1, .iload_n 1, []), (1, .isub, []), (2, .bipush 8, [0, 8]), (1, .irem, []), (1, .iaload, [0]), (3, .goto 5, [2])]),
  (27, [], [(2, .bipush (-9), [1, 9]), (0, .nop, [2])]),
  (29, [], [(1, .ireturn, [0])])]
def bk_R_restart : List jx_B := [
  (0, [0], [(1, .aload_n 0, []), (1, .iconst 0, [0, 0]), (3, .putfield 55, [0, 3, 7, 237]), (1, .aload_n 0, []), (1, .lconst 1, []), (3, .putfield 58, [1, 3, 8, 240]), (1, .return_, [])])]
def bk_Sg_covers : List jx_B := [
  (0, [0, 1, 2], [(1, .iload_n 1, []), (3, .ifCond .lt 42, [1]), (1, .iload_n 1, []), (1, .aload_n 0, []), (3, .getfield 9, [0, 4, 0, 201]), (3, .if_icmp .ge 34, [1]), (1, .iload_n 2, []), (1, .aload_n 0, []), (3, .getfield 15, [2, 4, 1, 204]), (1, .iload_n 1, []), (1, .iaload, [0]), (3, .if_icmp .lt 24, [1]), (1, .iload_n 2, []), (1, .aload_n 0, []), (3, .getfield 15, [2, 4, 1, 204]), (1, .iload_n 1, []), (1, .iaload, [0]), (1, .aload_n 0, []), (3, .getfield 19, [2, 4, 2, 207]), (1, .iload_n 1, []), (1, .iaload, [0]), (1, .iadd, []), (3, .if_icmp .ge 7, [1]), (1, .iconst 1, [0, 1]), (3, .goto 4, [2])]),
  (43, [], [(1, .iconst 0, [0, 0]), (0, .nop, [2])]),
  (44, [], [(1, .ireturn, [1])])]
def bk_Sg_isFull : List jx_B := [
  (0, [0], [(1, .aload_n 0, []), (3, .getfield 9, [0, 4, 0, 201]), (1, .aload_n 0, []), (3, .getfield 15, [2, 4, 1, 204]), (1, .arraylength, [0]), (3, .if_icmp .lt 7, [1]), (1, .iconst 1, [0, 1]), (3, .goto 4, [2])]),
  (16, [], [(1, .iconst 0, [0, 0]), (0, .nop, [2])]),
  (17, [], [(1, .ireturn, [1])])]
def bk_St_movedToEnd : List jx_B := [
  (0, [0, 1], [(1, .aload_n 0, []), (3, .getfield 24, [2, 5, 3, 334]), (1, .iload_n 1, []), (1, .aaload, [2]), (1, .astore_n 2, []), (1, .iload_n 1, []), (1, .iconst 1, [0, 1]), (1, .iadd, []), (1, .istore_n 3, []), (0, .nop, [1])]),
  (11, [0, 2, 3], [(1, .iload_n 3, []), (1, .aload_n 0, []), (3, .getfield 28, [0, 5, 4, 336]), (3, .if_icmp .ge 28, [2]), (1, .iload_n 3, []), (1, .iconst 4, [0, 4]), (3, .if_icmp .ge 23, [2]), (1, .aload_n 0, []), (3, .getfield 24, [2, 5, 3, 334]), (1, .iload_n 3, []), (1, .iconst 1, [0, 1]), (1, .isub, []), (1, .aload_n 0, []), (3, .getfield 24, [2, 5, 3, 334]), (1, .iload_n 3, []), (1, .aaload, [2]), (1, .aastore, [2]), (3, .iinc 3 1, [0, 1]), (3, .goto (-30), [1])]),
  (44, [0, 2], [(1, .aload_n 0, []), (3, .getfield 24, [2, 5, 3, 334]), (1, .aload_n 0, []), (3, .getfield 28, [0, 5, 4, 336]), (1, .iconst 1, [0, 1]), (1, .isub, []), (1, .aload_n 2, []), (1, .aastore, [2]), (1, .aload_n 2, []), (1, .areturn, [])])]
def bk_St_placeOf : List jx_B := [
  (0, [0, 1], [(1, .iconst 0, [0, 0]), (1, .istore_n 2, []), (0, .nop, [1])]),
  (2, [0, 1, 2], [(1, .iload_n 2, []), (1, .aload_n 0, []), (3, .getfield 28, [0, 5, 4, 336]), (3, .if_icmp .ge 29, [3]), (1, .iload_n 2, []), (1, .iconst 4, [0, 4]), (3, .if_icmp .ge 24, [3]), (1, .aload_n 0, []), (3, .getfield 24, [2, 5, 3, 334]), (1, .iload_n 2, []), (1, .aaload, [2]), (3, .getfield 60, [0, 2, 0, 285]), (1, .iload_n 1, []), (3, .if_icmp .ne 5, [2]), (1, .iload_n 2, []), (1, .ireturn, [0])]),
  (30, [0, 1, 2], [(3, .iinc 2 1, [0, 1]), (3, .goto (-31), [1])]),
  (36, [], [(1, .iconst (-1), [1, 1]), (1, .ireturn, [0])])]
def bk_Wo_isDefined : List jx_B := [
  (0, [0, 1], [(1, .aload_n 0, []), (3, .getfield 9, [2, 6, 0, 180]), (1, .iload_n 1, []), (1, .iaload, [0]), (3, .ifCond .le 7, [1]), (1, .iconst 1, [0, 1]), (3, .goto 4, [2])]),
  (13, [], [(1, .iconst 0, [0, 0]), (0, .nop, [2])]),
  (14, [], [(1, .ireturn, [1])])]
def bk_Wo_letterAt : List jx_B := [
  (0, [0, 1, 2], [(1, .iload_n 2, []), (1, .aload_n 0, []), (3, .getfield 9, [2, 6, 0, 180]), (1, .iload_n 1, []), (1, .iaload, [0]), (3, .if_icmp .ge 17, [1]), (1, .aload_n 0, []), (3, .getfield 15, [2, 6, 1, 182]), (1, .iload_n 1, []), (2, .bipush 8, [0, 8]), (1, .imul, []), (1, .iload_n 2, []), (1, .iadd, []), (1, .baload, []), (3, .goto 5, [2])]),
  (24, [], [(2, .bipush (-9), [1, 9]), (0, .nop, [2])]),
  (26, [], [(1, .ireturn, [0])])]
def bk_Wo_remove : List jx_B := [
  (0, [0, 1], [(1, .aload_n 0, []), (3, .getfield 9, [2, 6, 0, 180]), (1, .iload_n 1, []), (1, .iconst 0, [0, 0]), (1, .iastore, []), (1, .return_, [])])]
def bk_M_adds : List jx_B := [
  (0, [0, 1, 2], [(1, .aload_n 0, []), (3, .getfield 7, [2, 8, 0, 851]), (1, .aload_n 0, []), (3, .getfield 109, [0, 8, 12, 863]), (1, .iload_n 1, []), (1, .iadd, []), (1, .dup2, []), (1, .iaload, [0]), (1, .iload_n 2, []), (1, .iadd, []), (1, .iastore, []), (1, .return_, [])])]
def bk_M_clear : List jx_B := [
  (0, [0], [(1, .aload_n 0, []), (3, .getfield 89, [0, 8, 3, 854]), (1, .istore_n 1, []), (1, .aload_n 0, []), (1, .iconst 0, [0, 0]), (3, .putfield 89, [0, 8, 3, 854]), (1, .iload_n 1, []), (1, .ireturn, [0])])]
def bk_M_copies : List jx_B := [
  (0, [0, 1, 2], [(1, .iconst 0, [0, 0]), (1, .istore_n 3, []), (0, .nop, [1])]),
  (2, [0, 1, 2, 3], [(1, .iload_n 3, []), (3, .sipush 3736, [0, 3736]), (3, .if_icmp .ge 33, [2]), (1, .aload_n 0, []), (3, .getfield 7, [2, 8, 0, 851]), (3, .sipush 3736, [0, 3736]), (1, .iload_n 2, []), (1, .imul, []), (1, .iload_n 3, []), (1, .iadd, []), (1, .aload_n 0, []), (3, .getfield 7, [2, 8, 0, 851]), (3, .sipush 3736, [0, 3736]), (1, .iload_n 1, []), (1, .imul, []), (1, .iload_n 3, []), (1, .iadd, []), (1, .iaload, [0]), (1, .iastore, []), (3, .iinc 3 1, [0, 1]), (3, .goto (-34), [1])]),
  (39, [], [(1, .return_, [])])]
def bk_M_freeSlot : List jx_B := [
  (0, [0], [(1, .iconst 0, [0, 0]), (1, .istore_n 1, []), (1, .iconst 1, [0, 1]), (1, .istore_n 2, []), (0, .nop, [1])]),
  (4, [0, 1, 2], [(1, .iload_n 2, []), (3, .ifCond .eq 62, [9]), (1, .iconst 0, [0, 0]), (1, .istore_n 2, []), (1, .iconst 0, [0, 0]), (1, .istore_n 3, []), (0, .nop, [2])]),
  (12, [0, 1, 2, 3], [(1, .iload_n 3, []), (1, .aload_n 0, []), (3, .getfield 7, [2, 8, 0, 851]), (2, .bipush 57, [0, 57]), (1, .iaload, [0]), (3, .if_icmp .ge 32, [6]), (1, .iload_n 2, []), (3, .ifCond .ne 16, [3]), (1, .aload_n 0, []), (3, .getfield 7, [2, 8, 0, 851]), (2, .bipush 58, [0, 58]), (1, .iload_n 3, []), (1, .iadd, []), (1, .iaload, [0]), (1, .iload_n 1, []), (3, .if_icmp .ne 7, [4]), (0, .nop, [3])]),
  (40, [0, 1, 3], [(1, .iconst 1, [0, 1]), (3, .goto 4, [5])]),
  (44, [0, 1, 3], [(1, .iconst 0, [0, 0]), (0, .nop, [5])]),
  (45, [0, 1, 3], [(1, .istore_n 2, []), (3, .iinc 3 1, [0, 1]), (3, .goto (-37), [2])]),
  (52, [0, 1, 2], [(1, .iload_n 1, []), (1, .iload_n 2, []), (3, .ifCond .eq 7, [7]), (1, .iconst 1, [0, 1]), (3, .goto 4, [8])]),
  (61, [0, 2], [(1, .iconst 0, [0, 0]), (0, .nop, [8])]),
  (62, [0, 2], [(1, .iadd, []), (1, .istore_n 1, []), (3, .goto (-60), [1])]),
  (67, [1], [(1, .iload_n 1, []), (1, .ireturn, [0])])]
def bk_M_highOf : List jx_B := [
  (0, [0], [(1, .iload_n 0, []), (2, .bipush 25, [0, 25]), (3, .if_icmp .ge 7, [1]), (1, .iconst 0, [0, 0]), (3, .goto 9, [2])]),
  (10, [0], [(1, .iconst 1, [0, 1]), (1, .iload_n 0, []), (2, .bipush 25, [0, 25]), (1, .isub, []), (1, .ishl, []), (0, .nop, [2])]),
  (16, [], [(1, .ireturn, [0])])]
def bk_M_in : List jx_B := [
  (0, [0, 1, 2], [(1, .iload_n 0, []), (1, .iload_n 1, []), (3, .if_icmp .lt 12, [1]), (1, .iload_n 0, []), (1, .iload_n 2, []), (3, .if_icmp .gt 7, [1]), (1, .iconst 1, [0, 1]), (3, .goto 4, [2])]),
  (14, [], [(1, .iconst 0, [0, 0]), (0, .nop, [2])]),
  (15, [], [(1, .ireturn, [1])])]
def bk_M_leaves : List jx_B := [
  (0, [0, 1], [(1, .iload_n 1, []), (1, .istore_n 2, []), (0, .nop, [1])]),
  (2, [0, 2], [(1, .iload_n 2, []), (1, .iconst 1, [0, 1]), (1, .iadd, []), (1, .aload_n 0, []), (3, .getfield 7, [2, 8, 0, 851]), (2, .bipush 57, [0, 57]), (1, .iaload, [0]), (3, .if_icmp .ge 29, [2]), (1, .aload_n 0, []), (3, .getfield 7, [2, 8, 0, 851]), (2, .bipush 58, [0, 58]), (1, .iload_n 2, []), (1, .iadd, []), (1, .aload_n 0, []), (3, .getfield 7, [2, 8, 0, 851]), (2, .bipush 58, [0, 58]), (1, .iload_n 2, []), (1, .iadd, []), (1, .iconst 1, [0, 1]), (1, .iadd, []), (1, .iaload, [0]), (1, .iastore, []), (3, .iinc 2 1, [0, 1]), (3, .goto (-36), [1])]),
  (41, [0], [(1, .aload_n 0, []), (3, .getfield 7, [2, 8, 0, 851]), (2, .bipush 57, [0, 57]), (1, .dup2, []), (1, .iaload, [0]), (1, .iconst 1, [0, 1]), (1, .isub, []), (1, .iastore, []), (1, .return_, [])])]
def bk_M_letterOf : List jx_B := [
  (0, [0, 1, 2], [(1, .aload_n 0, []), (3, .getfield 7, [2, 8, 0, 851]), (2, .bipush 9, [0, 9]), (1, .iload_n 1, []), (1, .imul, []), (1, .iconst 1, [0, 1]), (1, .iadd, []), (1, .iload_n 2, []), (1, .iadd, []), (1, .iaload, [0]), (1, .ireturn, [0])])]
def bk_M_lowOf : List jx_B := [
  (0, [0], [(1, .iload_n 0, []), (2, .bipush 25, [0, 25]), (3, .if_icmp .ge 9, [1]), (1, .iconst 1, [0, 1]), (1, .iload_n 0, []), (1, .ishl, []), (3, .goto 4, [2])]),
  (12, [], [(1, .iconst 0, [0, 0]), (0, .nop, [2])]),
  (13, [], [(1, .ireturn, [0])])]
def bk_M_nodeOf : List jx_B := [
  (0, [0, 1, 2], [(1, .iconst 0, [0, 0]), (1, .istore_n 3, []), (0, .nop, [1])]),
  (2, [0, 1, 2, 3], [(1, .iload_n 3, []), (1, .aload_n 0, []), (3, .getfield 54, [0, 8, 4, 855]), (3, .if_icmp .ge 84, [9]), (1, .aload_n 0, []), (3, .getfield 16, [2, 8, 5, 856]), (1, .iload_n 3, []), (1, .iaload, [0]), (1, .iload_n 2, []), (3, .if_icmp .ne 7, [2]), (1, .iconst 1, [0, 1]), (3, .goto 4, [3])]),
  (24, [0, 1, 2, 3], [(1, .iconst 0, [0, 0]), (0, .nop, [3])]),
  (25, [0, 1, 2, 3], [(2, .istore 4, []), (1, .iconst 0, [0, 0]), (2, .istore 5, []), (0, .nop, [4])]),
  (30, [0, 1, 2, 3, 4, 5], [(2, .iload 5, []), (1, .iload_n 2, []), (3, .if_icmp .ge 45, [7]), (2, .iload 4, []), (3, .ifCond .eq 40, [7]), (1, .aload_n 0, []), (3, .getfield 19, [2, 8, 6, 857]), (2, .bipush 8, [0, 8]), (1, .iload_n 3, []), (1, .imul, []), (2, .iload 5, []), (1, .iadd, []), (1, .iaload, [0]), (1, .aload_n 0, []), (3, .getfield 34, [2, 8, 11, 862]), (1, .iload_n 1, []), (2, .iload 5, []), (1, .iadd, []), (1, .iaload, [0]), (3, .if_icmp .ne 7, [5]), (1, .iconst 1, [0, 1]), (3, .goto 4, [6])]),
  (69, [0, 1, 2, 3, 5], [(1, .iconst 0, [0, 0]), (0, .nop, [6])]),
  (70, [0, 1, 2, 3, 5], [(2, .istore 4, []), (3, .iinc 5 1, [0, 1]), (3, .goto (-45), [4])]),
  (78, [0, 1, 2, 3, 4], [(2, .iload 4, []), (3, .ifCond .eq 5, [8]), (1, .iload_n 3, []), (1, .ireturn, [0])]),
  (85, [0, 1, 2, 3], [(3, .iinc 3 1, [0, 1]), (3, .goto (-86), [1])]),
  (91, [], [(2, .bipush (-9), [1, 9]), (1, .ireturn, [0])])]
def bk_M_of : List jx_B := [
  (0, [0, 1], [(1, .aload_n 0, []), (3, .getfield 7, [2, 8, 0, 851]), (1, .aload_n 0, []), (3, .getfield 109, [0, 8, 12, 863]), (1, .iload_n 1, []), (1, .iadd, []), (1, .iaload, [0]), (1, .ireturn, [0])])]
def bk_M_order : List jx_B := [
  (0, [0, 1, 2], [(1, .iconst 0, [0, 0]), (1, .istore_n 3, []), (0, .nop, [1])]),
  (2, [0, 1, 2, 3], [(1, .iload_n 3, []), (1, .iload_n 2, []), (3, .if_icmp .ge 37, [3]), (1, .aload_n 0, []), (3, .getfield 19, [2, 8, 6, 857]), (2, .bipush 8, [0, 8]), (1, .iload_n 1, []), (1, .imul, []), (1, .iload_n 3, []), (1, .iadd, []), (1, .iaload, [0]), (1, .aload_n 0, []), (3, .getfield 34, [2, 8, 11, 862]), (1, .iload_n 3, []), (1, .iaload, [0]), (1, .isub, []), (2, .istore 4, []), (2, .iload 4, []), (3, .ifCond .eq 6, [2]), (2, .iload 4, []), (1, .ireturn, [0])]),
  (35, [0, 1, 2, 3], [(3, .iinc 3 1, [0, 1]), (3, .goto (-36), [1])]),
  (41, [], [(1, .iconst 0, [0, 0]), (1, .ireturn, [0])])]
def bk_M_pieceAt : List jx_B := [
  (0, [0, 1], [(1, .aload_n 0, []), (3, .getfield 109, [0, 8, 12, 863]), (2, .bipush 38, [0, 38]), (1, .iadd, []), (2, .bipush 42, [0, 42]), (1, .iload_n 1, []), (1, .imul, []), (1, .iadd, []), (1, .ireturn, [0])])]
def bk_M_put : List jx_B := [
  (0, [0, 1, 2], [(1, .aload_n 0, []), (3, .getfield 7, [2, 8, 0, 851]), (1, .aload_n 0, []), (3, .getfield 109, [0, 8, 12, 863]), (1, .iload_n 1, []), (1, .iadd, []), (1, .iload_n 2, []), (1, .iastore, []), (1, .return_, [])])]
def bk_M_slot : List jx_B := [
  (0, [0, 1], [(3, .sipush 186, [0, 186]), (3, .sipush 710, [0, 710]), (1, .aload_n 0, []), (3, .getfield 7, [2, 8, 0, 851]), (2, .bipush 58, [0, 58]), (1, .iload_n 1, []), (1, .iadd, []), (1, .iaload, [0]), (1, .imul, []), (1, .iadd, []), (1, .ireturn, [0])])]
def bk_M_takes : List jx_B := [
  (0, [0, 1], [(1, .iconst 0, [0, 0]), (1, .istore_n 2, []), (0, .nop, [1])]),
  (2, [0, 1, 2], [(1, .iload_n 2, []), (1, .aload_n 0, []), (3, .getfield 16, [2, 8, 5, 856]), (1, .iload_n 1, []), (1, .iaload, [0]), (3, .if_icmp .ge 26, [2]), (1, .aload_n 0, []), (3, .getfield 34, [2, 8, 11, 862]), (1, .iload_n 2, []), (1, .aload_n 0, []), (3, .getfield 19, [2, 8, 6, 857]), (2, .bipush 8, [0, 8]), (1, .iload_n 1, []), (1, .imul, []), (1, .iload_n 2, []), (1, .iadd, []), (1, .iaload, [0]), (1, .iastore, []), (3, .iinc 2 1, [0, 1]), (3, .goto (-30), [1])]),
  (35, [], [(1, .return_, [])])]
def bk_M_wordLength : List jx_B := [
  (0, [0, 1], [(1, .aload_n 0, []), (3, .getfield 7, [2, 8, 0, 851]), (2, .bipush 9, [0, 9]), (1, .iload_n 1, []), (1, .imul, []), (1, .iaload, [0]), (1, .ireturn, [0])])]
def bk_JI_bitCount : List jx_B := [
  (0, [0], [(1, .iload_n 0, []), (1, .iload_n 0, []), (1, .iconst 1, [0, 1]), (1, .iushr, []), (3, .ldc_w 265, [1431655765, 644]), (1, .iand, []), (1, .isub, []), (1, .istore_n 0, []), (1, .iload_n 0, []), (3, .ldc_w 266, [858993459, 645]), (1, .iand, []), (1, .iload_n 0, []), (1, .iconst 2, [0, 2]), (1, .iushr, []), (3, .ldc_w 266, [858993459, 645]), (1, .iand, []), (1, .iadd, []), (1, .istore_n 0, []), (1, .iload_n 0, []), (1, .iload_n 0, []), (1, .iconst 4, [0, 4]), (1, .iushr, []), (1, .iadd, []), (3, .ldc_w 267, [252645135, 646]), (1, .iand, []), (1, .istore_n 0, []), (1, .iload_n 0, []), (1, .iload_n 0, []), (2, .bipush 8, [0, 8]), (1, .iushr, []), (1, .iadd, []), (1, .istore_n 0, []), (1, .iload_n 0, []), (1, .iload_n 0, []), (2, .bipush 16, [0, 16]), (1, .iushr, []), (1, .iadd, []), (1, .istore_n 0, []), (1, .iload_n 0, []), (2, .bipush 63, [0, 63]), (1, .iand, []), (1, .ireturn, [0])])]
def bk_JL_bitCount : List jx_B := [
  (0, [0], [(1, .lload_n 0, []), (1, .lload_n 0, []), (1, .iconst 1, [0, 1]), (1, .lushr, []), (3, .ldc2_w 314, [0, 6148914691236517205, 716]), (1, .land, []), (1, .lsub, []), (1, .lstore_n 0, []), (1, .lload_n 0, []), (3, .ldc2_w 316, [0, 3689348814741910323, 717]), (1, .land, []), (1, .lload_n 0, []), (1, .iconst 2, [0, 2]), (1, .lushr, []), (3, .ldc2_w 316, [0, 3689348814741910323, 717]), (1, .land, []), (1, .ladd, []), (1, .lstore_n 0, []), (1, .lload_n 0, []), (1, .lload_n 0, []), (1, .iconst 4, [0, 4]), (1, .lushr, []), (1, .ladd, []), (3, .ldc2_w 318, [0, 1085102592571150095, 718]), (1, .land, []), (1, .lstore_n 0, []), (1, .lload_n 0, []), (1, .lload_n 0, []), (2, .bipush 8, [0, 8]), (1, .lushr, []), (1, .ladd, []), (1, .lstore_n 0, []), (1, .lload_n 0, []), (1, .lload_n 0, []), (2, .bipush 16, [0, 16]), (1, .lushr, []), (1, .ladd, []), (1, .lstore_n 0, []), (1, .lload_n 0, []), (1, .lload_n 0, []), (2, .bipush 32, [0, 32]), (1, .lushr, []), (1, .ladd, []), (1, .lstore_n 0, []), (1, .lload_n 0, []), (1, .l2i, []), (2, .bipush 127, [0, 127]), (1, .iand, []), (1, .ireturn, [0])])]
def bk_JA_fill : List jx_B := [
  (0, [0, 1], [(1, .iconst 0, [0, 0]), (1, .istore_n 2, []), (1, .aload_n 0, []), (1, .arraylength, [0]), (1, .istore_n 3, []), (0, .nop, [1])]),
  (5, [0, 1, 2, 3], [(1, .iload_n 2, []), (1, .iload_n 3, []), (3, .if_icmp .ge 13, [2]), (1, .aload_n 0, []), (1, .iload_n 2, []), (1, .iload_n 1, []), (1, .iastore, []), (3, .iinc 2 1, [0, 1]), (3, .goto (-12), [1])]),
  (20, [], [(1, .return_, [])])]
def bk_T_firstWrongByte : List jx_B := [
  (0, [0], [(1, .aload_n 0, []), (3, .getfield 13, [0, 7, 1, 357]), (3, .ifCond .ne 5, [1]), (1, .iconst 0, [0, 0]), (1, .ireturn, [0])]),
  (9, [0], [(1, .iconst 0, [0, 0]), (1, .istore_n 1, []), (0, .nop, [2])]),
  (11, [0, 1], [(1, .iload_n 1, []), (1, .aload_n 0, []), (3, .getfield 13, [0, 7, 1, 357]), (3, .if_icmp .ge 35, [5]), (1, .iload_n 1, []), (2, .bipush 40, [0, 40]), (3, .if_icmp .ge 29, [5]), (1, .iload_n 1, []), (2, .bipush 8, [0, 8]), (3, .if_icmp .ge 15, [3]), (1, .aload_n 0, []), (3, .getfield 9, [2, 7, 0, 356]), (1, .iload_n 1, []), (1, .baload, []), (3, .invokestatic 235, [0, 4, 1, 1, 400]), (3, .ifCond .ne 5, [4]), (0, .nop, [3])]),
  (43, [1], [(1, .iload_n 1, []), (1, .ireturn, [0])]),
  (45, [0, 1], [(3, .iinc 1 1, [0, 1]), (3, .goto (-37), [2])]),
  (51, [], [(1, .iconst (-1), [1, 1]), (1, .ireturn, [0])])]
def bk_T_letter : List jx_B := [
  (0, [0, 1, 2], [(1, .iload_n 1, []), (3, .invokestatic 53, [0, 5, 1, 1, 393]), (3, .ifCond .eq 7, [1]), (1, .iload_n 2, []), (3, .ifCond .ge 5, [2]), (0, .nop, [1])]),
  (11, [], [(1, .iconst (-1), [1, 1]), (1, .ireturn, [0])]),
  (13, [0, 1, 2], [(1, .aload_n 0, []), (3, .getfield 32, [2, 7, 3, 359]), (3, .getfield 64, [2, 5, 0, 329]), (1, .iload_n 1, []), (3, .invokevirtual 80, [0, 6, 24, 2, 1, 501]), (3, .ifCond .eq 18, [3]), (1, .aload_n 0, []), (3, .getfield 32, [2, 7, 3, 359]), (3, .getfield 64, [2, 5, 0, 329]), (1, .iload_n 1, []), (1, .iload_n 2, []), (3, .invokevirtual 87, [0, 6, 25, 3, 1, 513]), (3, .goto 5, [4])]),
  (42, [], [(2, .bipush (-2), [1, 2]), (0, .nop, [4])]),
  (44, [], [(1, .ireturn, [0])])]
def bk_T_next : List jx_B := [
  (0, [0, 1, 2], [(1, .aload_n 0, []), (3, .getfield 20, [2, 7, 2, 358]), (1, .iload_n 1, []), (3, .invokevirtual 91, [0, 0, 8, 2, 1, 518]), (3, .ifCond .eq 13, [1]), (1, .iload_n 2, []), (3, .ifCond .lt 9, [1]), (1, .iload_n 2, []), (2, .bipush 26, [0, 26]), (3, .if_icmp .lt 5, [2]), (0, .nop, [1])]),
  (21, [], [(1, .iconst (-1), [1, 1]), (1, .ireturn, [0])]),
  (23, [0, 1, 2], [(1, .aload_n 0, []), (3, .getfield 20, [2, 7, 2, 358]), (1, .iload_n 1, []), (1, .iload_n 2, []), (3, .invokevirtual 110, [0, 0, 9, 3, 1, 526]), (1, .ireturn, [0])])]
def bk_T_node : List jx_B := [
  (0, [0, 1, 2], [(1, .aload_n 0, []), (3, .getfield 20, [2, 7, 2, 358]), (1, .iload_n 1, []), (3, .invokevirtual 91, [0, 0, 8, 2, 1, 518]), (3, .ifCond .eq 12, [1]), (1, .iload_n 2, []), (3, .ifCond .lt 8, [1]), (1, .iload_n 2, []), (1, .iconst 5, [0, 5]), (3, .if_icmp .lt 5, [2]), (0, .nop, [1])]),
  (20, [], [(1, .iconst (-1), [1, 1]), (1, .ireturn, [0])]),
  (22, [0, 1, 2], [(1, .iload_n 1, []), (3, .ifCond .ne 16, [3]), (1, .iload_n 2, []), (1, .iconst 1, [0, 1]), (3, .if_icmp .lt 11, [3]), (1, .iload_n 2, []), (1, .iconst 3, [0, 3]), (3, .if_icmp .gt 6, [3]), (2, .bipush (-9), [1, 9]), (1, .ireturn, [0])]),
  (39, [0, 1, 2], [(1, .iload_n 2, []), (32, .tableswitch 72 0 3 #[32, 42, 52, 62], [8, 4, 5, 6, 7])]),
  (72, [0, 1], [(1, .aload_n 0, []), (3, .getfield 20, [2, 7, 2, 358]), (3, .getfield 94, [2, 0, 1, 106]), (1, .iload_n 1, []), (1, .iaload, [0]), (1, .ireturn, [0])]),
  (82, [0, 1], [(1, .aload_n 0, []), (3, .getfield 20, [2, 7, 2, 358]), (3, .getfield 98, [2, 0, 2, 108]), (1, .iload_n 1, []), (1, .iaload, [0]), (1, .ireturn, [0])]),
  (92, [0, 1], [(1, .aload_n 0, []), (3, .getfield 20, [2, 7, 2, 358]), (3, .getfield 101, [2, 0, 3, 110]), (1, .iload_n 1, []), (1, .iaload, [0]), (1, .ireturn, [0])]),
  (102, [0, 1], [(1, .aload_n 0, []), (3, .getfield 20, [2, 7, 2, 358]), (3, .getfield 104, [2, 0, 4, 112]), (1, .iload_n 1, []), (1, .iaload, [0]), (1, .ireturn, [0])]),
  (112, [0, 1], [(1, .aload_n 0, []), (3, .getfield 20, [2, 7, 2, 358]), (3, .getfield 107, [2, 0, 5, 114]), (1, .iload_n 1, []), (1, .iaload, [0]), (1, .ireturn, [0])])]
def bk_T_possible : List jx_B := [
  (0, [0, 1], [(1, .iload_n 1, []), (3, .invokestatic 129, [0, 3, 1, 1, 543]), (3, .ifCond .ne 7, [1]), (3, .ldc2_w 163, [1, 1, 731]), (1, .lreturn, [])]),
  (11, [0, 1], [(1, .aload_n 0, []), (3, .getfield 32, [2, 7, 3, 359]), (1, .iload_n 1, []), (3, .invokevirtual 132, [0, 5, 23, 2, 1, 546]), (1, .istore_n 2, []), (1, .iload_n 2, []), (1, .iconst (-1), [1, 1]), (3, .if_icmp .ne 9, [2]), (3, .ldc2_w 165, [1, 2, 732]), (3, .goto 18, [3])]),
  (31, [0, 2], [(1, .aload_n 0, []), (3, .getfield 32, [2, 7, 3, 359]), (3, .getfield 143, [2, 5, 3, 335]), (1, .iload_n 2, []), (1, .aaload, [2]), (3, .getfield 167, [2, 2, 6, 297]), (3, .getfield 171, [1, 3, 8, 242]), (0, .nop, [3])]),
  (46, [], [(1, .lreturn, [])])]
def bk_T_read : List jx_B := [
  (0, [0, 1, 2], [(1, .iload_n 1, []), (3, .invokestatic 129, [0, 3, 1, 1, 543]), (3, .ifCond .eq 13, [1]), (1, .iload_n 2, []), (3, .ifCond .lt 9, [1]), (1, .iload_n 2, []), (2, .bipush 8, [0, 8]), (3, .if_icmp .lt 5, [2]), (0, .nop, [1])]),
  (17, [], [(1, .iconst (-1), [1, 1]), (1, .ireturn, [0])]),
  (19, [0, 1, 2], [(1, .aload_n 0, []), (3, .getfield 32, [2, 7, 3, 359]), (1, .iload_n 1, []), (3, .invokevirtual 132, [0, 5, 23, 2, 1, 546]), (1, .istore_n 3, []), (1, .iload_n 3, []), (1, .iconst (-1), [1, 1]), (3, .if_icmp .ne 8, [3]), (2, .bipush (-2), [1, 2]), (3, .goto 19, [4])]),
  (38, [0, 2, 3], [(1, .aload_n 0, []), (3, .getfield 32, [2, 7, 3, 359]), (3, .getfield 143, [2, 5, 3, 335]), (1, .iload_n 3, []), (1, .aaload, [2]), (3, .getfield 167, [2, 2, 6, 297]), (1, .iload_n 2, []), (3, .invokevirtual 177, [0, 3, 18, 2, 1, 737]), (0, .nop, [4])]),
  (54, [], [(1, .ireturn, [0])])]
def bk_T_segmentError : List jx_B := [
  (0, [0, 1, 2], [(1, .iload_n 1, []), (3, .invokestatic 129, [0, 3, 1, 1, 543]), (3, .ifCond .eq 14, [1]), (1, .iload_n 2, []), (3, .ifCond .lt 10, [1]), (1, .iload_n 2, []), (3, .sipush 1000, [0, 1000]), (3, .if_icmp .lt 5, [2]), (0, .nop, [1])]),
  (18, [], [(1, .iconst (-1), [1, 1]), (1, .ireturn, [0])]),
  (20, [0, 1], [(1, .aload_n 0, []), (3, .getfield 13, [0, 7, 1, 357]), (3, .ifCond .ne 6, [3]), (2, .bipush (-2), [1, 2]), (1, .ireturn, [0])]),
  (30, [0, 1], [(1, .aload_n 0, []), (3, .getfield 32, [2, 7, 3, 359]), (1, .iload_n 1, []), (3, .invokevirtual 132, [0, 5, 23, 2, 1, 546]), (1, .istore_n 3, []), (1, .iload_n 3, []), (1, .iconst (-1), [1, 1]), (3, .if_icmp .eq 26, [4]), (1, .aload_n 0, []), (3, .getfield 32, [2, 7, 3, 359]), (3, .getfield 143, [2, 5, 3, 335]), (1, .iload_n 3, []), (1, .aaload, [2]), (3, .getfield 241, [2, 2, 4, 293]), (3, .invokevirtual 245, [0, 4, 21, 1, 1, 550]), (3, .ifCond .eq 8, [4]), (2, .bipush (-3), [1, 3]), (3, .goto 4, [5])]),
  (67, [], [(1, .iconst 0, [0, 0]), (0, .nop, [5])]),
  (68, [], [(1, .ireturn, [0])])]
def bk_A_init : List jx_B := [
  (0, [0], [(1, .aload_n 0, []), (3, .invokespecial 3, [2, 102, 95, 96]), (1, .aload_n 0, []), (1, .iconst 1, [0, 1]), (3, .putfield 9, [0, 0, 0, 103]), (0, .nop, [1])]),
  (9, [0], [(1, .aload_n 0, []), (2, .bipush 49, [0, 49]), (2, .newarray .int, [140]), (3, .putfield 15, [2, 0, 1, 105]), (0, .nop, [2])]),
  (17, [0], [(1, .aload_n 0, []), (2, .bipush 49, [0, 49]), (2, .newarray .int, [140]), (3, .putfield 19, [2, 0, 2, 107]), (0, .nop, [3])]),
  (25, [0], [(1, .aload_n 0, []), (2, .bipush 49, [0, 49]), (2, .newarray .int, [140]), (3, .putfield 22, [2, 0, 3, 109]), (0, .nop, [4])]),
  (33, [0], [(1, .aload_n 0, []), (2, .bipush 49, [0, 49]), (2, .newarray .int, [140]), (3, .putfield 25, [2, 0, 4, 111]), (0, .nop, [5])]),
  (41, [0], [(1, .aload_n 0, []), (2, .bipush 49, [0, 49]), (2, .newarray .int, [140]), (3, .putfield 28, [2, 0, 5, 113]), (0, .nop, [6])]),
  (49, [0], [(1, .aload_n 0, []), (2, .bipush 6, [0, 6]), (2, .newarray .int, [140]), (3, .putfield 31, [2, 0, 6, 116]), (0, .nop, [7])]),
  (57, [0], [(1, .aload_n 0, []), (3, .sipush 1274, [0, 1274]), (2, .newarray .int, [140]), (3, .putfield 34, [2, 0, 7, 118]), (0, .nop, [8])]),
  (66, [0], [(1, .aload_n 0, []), (2, .bipush 6, [0, 6]), (2, .newarray .int, [140]), (3, .putfield 37, [2, 0, 8, 119]), (0, .nop, [9])]),
  (74, [], [(1, .return_, [])])]
def bk_A_added : List jx_B := [
  (0, [0, 1, 2, 3], [(1, .aload_n 0, []), (3, .getfield 9, [0, 0, 0, 103]), (2, .bipush 48, [0, 48]), (3, .invokestatic 65, [4, 484, 459, 85, 460]), (2, .istore 4, []), (1, .aload_n 0, []), (3, .getfield 15, [2, 0, 1, 105]), (2, .iload 4, []), (1, .iload_n 3, []), (1, .iastore, []), (1, .aload_n 0, []), (3, .getfield 19, [2, 0, 2, 107]), (2, .iload 4, []), (1, .iload_n 1, []), (1, .iastore, []), (1, .aload_n 0, []), (3, .getfield 22, [2, 0, 3, 109]), (2, .iload 4, []), (1, .iload_n 2, []), (1, .iastore, []), (1, .aload_n 0, []), (3, .getfield 28, [2, 0, 5, 113]), (2, .iload 4, []), (1, .iconst 0, [0, 0]), (1, .iastore, []), (1, .aload_n 0, []), (3, .getfield 34, [2, 0, 7, 118]), (1, .iload_n 1, []), (2, .bipush 26, [0, 26]), (1, .imul, []), (1, .iload_n 2, []), (1, .iadd, []), (2, .iload 4, []), (1, .iastore, []), (1, .aload_n 0, []), (2, .iload 4, []), (1, .iconst 1, [0, 1]), (1, .iadd, []), (3, .putfield 9, [0, 0, 0, 103]), (2, .iload 4, []), (1, .ireturn, [0])])]
def bk_A_link : List jx_B := [
  (0, [0, 1], [(1, .aload_n 0, []), (3, .getfield 19, [2, 0, 2, 107]), (1, .iload_n 1, []), (1, .iaload, [0]), (1, .istore_n 2, []), (1, .iload_n 2, []), (3, .ifCond .ne 7, [1]), (1, .iconst 0, [0, 0]), (3, .goto 19, [2])]),
  (15, [0, 1, 2], [(1, .aload_n 0, []), (1, .aload_n 0, []), (3, .getfield 25, [2, 0, 4, 111]), (1, .iload_n 2, []), (1, .iaload, [0]), (1, .aload_n 0, []), (3, .getfield 22, [2, 0, 3, 109]), (1, .iload_n 1, []), (1, .iaload, [0]), (3, .invokevirtual 70, [0, 0, 9, 3, 1, 489]), (0, .nop, [2])]),
  (31, [0, 1], [(1, .istore_n 3, []), (1, .aload_n 0, []), (3, .getfield 25, [2, 0, 4, 111]), (1, .iload_n 1, []), (1, .iload_n 3, []), (1, .iastore, []), (1, .aload_n 0, []), (3, .getfield 28, [2, 0, 5, 113]), (1, .iload_n 1, []), (1, .dup2, []), (1, .iaload, [0]), (1, .aload_n 0, []), (3, .getfield 28, [2, 0, 5, 113]), (1, .iload_n 3, []), (1, .iaload, [0]), (1, .ior, []), (1, .iastore, []), (1, .iconst 0, [0, 0]), (2, .istore 4, []), (0, .nop, [3])]),
  (57, [0, 1, 3, 4], [(2, .iload 4, []), (2, .bipush 26, [0, 26]), (3, .if_icmp .ge 47, [5]), (1, .iload_n 1, []), (2, .bipush 26, [0, 26]), (1, .imul, []), (2, .iload 4, []), (1, .iadd, []), (2, .istore 5, []), (1, .aload_n 0, []), (3, .getfield 34, [2, 0, 7, 118]), (2, .iload 5, []), (1, .iaload, [0]), (3, .ifCond .ne 22, [4]), (1, .aload_n 0, []), (3, .getfield 34, [2, 0, 7, 118]), (2, .iload 5, []), (1, .aload_n 0, []), (3, .getfield 34, [2, 0, 7, 118]), (1, .iload_n 3, []), (2, .bipush 26, [0, 26]), (1, .imul, []), (2, .iload 4, []), (1, .iadd, []), (1, .iaload, [0]), (1, .iastore, []), (0, .nop, [4])]),
  (102, [0, 1, 3, 4], [(3, .iinc 4 1, [0, 1]), (3, .goto (-48), [3])]),
  (108, [], [(1, .return_, [])])]
def bk_A_nextSetByAny : List jx_B := [
  (0, [0, 1], [(1, .lconst 0, []), (1, .lstore_n 3, []), (1, .iconst 0, [0, 0]), (2, .istore 5, []), (0, .nop, [1])]),
  (5, [0, 1, 3, 5], [(2, .iload 5, []), (2, .bipush 26, [0, 26]), (3, .if_icmp .ge 19, [2]), (1, .lload_n 3, []), (1, .aload_n 0, []), (1, .lload_n 1, []), (2, .iload 5, []), (3, .invokevirtual 73, [0, 0, 10, 3, 2, 690]), (1, .lor, []), (1, .lstore_n 3, []), (3, .iinc 5 1, [0, 1]), (3, .goto (-20), [1])]),
  (28, [3], [(1, .lload_n 3, []), (1, .lreturn, [])])]
def bk_Fi_init : List jx_B := [
  (0, [0], [(1, .aload_n 0, []), (3, .invokespecial 3, [2, 148, 95, 96]), (1, .aload_n 0, []), (1, .iconst 0, [0, 0]), (3, .putfield 9, [0, 1, 0, 149]), (1, .aload_n 0, []), (1, .iconst 0, [0, 0]), (3, .putfield 15, [0, 1, 1, 151]), (1, .aload_n 0, []), (2, .bipush 30, [0, 30]), (2, .newarray .int, [140]), (3, .putfield 18, [2, 1, 2, 153]), (1, .aload_n 0, []), (2, .bipush 30, [0, 30]), (2, .newarray .int, [140]), (3, .putfield 22, [2, 1, 3, 154]), (1, .aload_n 0, []), (2, .bipush 30, [0, 30]), (2, .newarray .int, [140]), (3, .putfield 25, [2, 1, 4, 155]), (1, .aload_n 0, []), (2, .bipush 30, [0, 30]), (2, .newarray .int, [140]), (3, .putfield 28, [2, 1, 5, 156]), (1, .return_, [])])]
def bk_Fi_copyFrom : List jx_B := [
  (0, [0, 1], [(1, .aload_n 0, []), (1, .aload_n 1, []), (3, .getfield 9, [0, 1, 0, 149]), (3, .putfield 9, [0, 1, 0, 149]), (1, .aload_n 0, []), (1, .aload_n 1, []), (3, .getfield 15, [0, 1, 1, 151]), (3, .putfield 15, [0, 1, 1, 151]), (1, .aload_n 1, []), (3, .getfield 18, [2, 1, 2, 153]), (1, .iconst 0, [0, 0]), (1, .aload_n 0, []), (3, .getfield 18, [2, 1, 2, 153]), (1, .iconst 0, [0, 0]), (2, .bipush 30, [0, 30]), (3, .invokestatic 31, [2, 427, 421, 420, 84]), (1, .aload_n 1, []), (3, .getfield 22, [2, 1, 3, 154]), (1, .iconst 0, [0, 0]), (1, .aload_n 0, []), (3, .getfield 22, [2, 1, 3, 154]), (1, .iconst 0, [0, 0]), (2, .bipush 30, [0, 30]), (3, .invokestatic 31, [2, 427, 421, 420, 84]), (1, .aload_n 1, []), (3, .getfield 25, [2, 1, 4, 155]), (1, .iconst 0, [0, 0]), (1, .aload_n 0, []), (3, .getfield 25, [2, 1, 4, 155]), (1, .iconst 0, [0, 0]), (2, .bipush 30, [0, 30]), (3, .invokestatic 31, [2, 427, 421, 420, 84]), (1, .aload_n 1, []), (3, .getfield 28, [2, 1, 5, 156]), (1, .iconst 0, [0, 0]), (1, .aload_n 0, []), (3, .getfield 28, [2, 1, 5, 156]), (1, .iconst 0, [0, 0]), (2, .bipush 30, [0, 30]), (3, .invokestatic 31, [2, 427, 421, 420, 84]), (1, .return_, [])])]
def bk_Fi_remembered : List jx_B := [
  (0, [0], [(1, .aload_n 0, []), (3, .invokevirtual 37, [0, 1, 13, 1, 1, 753]), (2, .bipush 30, [0, 30]), (3, .invokestatic 41, [4, 754, 459, 85, 460]), (1, .ireturn, [0])])]
def bk_Fl_chosenPiece : List jx_B := [
  (0, [0, 1], [(1, .iconst (-1), [1, 1]), (1, .istore_n 2, []), (1, .iconst 0, [0, 0]), (1, .istore_n 3, []), (0, .nop, [1])]),
  (4, [0, 1, 2, 3], [(1, .iload_n 3, []), (1, .aload_n 0, []), (3, .getfield 14, [2, 2, 4, 292]), (3, .getfield 45, [0, 4, 0, 202]), (3, .if_icmp .ge 37, [4]), (1, .aload_n 0, []), (3, .getfield 14, [2, 2, 4, 292]), (1, .iload_n 3, []), (1, .iload_n 1, []), (3, .invokevirtual 115, [0, 4, 20, 3, 1, 594]), (3, .ifCond .eq 19, [3]), (1, .iload_n 2, []), (1, .iconst (-1), [1, 1]), (3, .if_icmp .eq 12, [2]), (1, .aload_n 0, []), (1, .iload_n 3, []), (1, .iload_n 2, []), (3, .invokevirtual 118, [0, 2, 14, 3, 1, 598]), (3, .ifCond .eq 5, [3]), (0, .nop, [2])]),
  (41, [0, 1, 3], [(1, .iload_n 3, []), (1, .istore_n 2, []), (0, .nop, [3])]),
  (43, [0, 1, 2, 3], [(3, .iinc 3 1, [0, 1]), (3, .goto (-42), [1])]),
  (49, [2], [(1, .iload_n 2, []), (1, .ireturn, [0])])]
def bk_R_init : List jx_B := [
  (0, [0, 1, 2], [(1, .aload_n 0, []), (3, .invokespecial 3, [2, 226, 95, 96]), (1, .aload_n 0, []), (2, .bipush 8, [0, 8]), (2, .newarray .int, [140]), (3, .putfield 9, [2, 3, 9, 243]), (1, .aload_n 0, []), (2, .bipush 8, [0, 8]), (2, .newarray .int, [140]), (3, .putfield 15, [2, 3, 10, 244]), (1, .aload_n 0, []), (1, .aload_n 1, []), (3, .putfield 18, [2, 3, 0, 227]), (1, .aload_n 0, []), (1, .aload_n 2, []), (3, .putfield 22, [2, 3, 1, 228]), (1, .return_, [])])]
def bk_R_begin : List jx_B := [
  (0, [0, 1, 2], [(1, .aload_n 0, []), (1, .iload_n 1, []), (3, .putfield 26, [0, 3, 2, 229]), (1, .aload_n 0, []), (1, .iload_n 2, []), (3, .putfield 30, [0, 3, 3, 230]), (1, .aload_n 0, []), (1, .iconst 0, [0, 0]), (3, .putfield 33, [0, 3, 4, 233]), (1, .aload_n 0, []), (1, .iconst 0, [0, 0]), (3, .putfield 36, [3, 3, 6, 236]), (1, .aload_n 0, []), (1, .iconst 0, [0, 0]), (3, .putfield 40, [0, 3, 11, 245]), (1, .aload_n 0, []), (1, .iconst 0, [0, 0]), (3, .putfield 43, [0, 3, 12, 247]), (1, .aload_n 0, []), (1, .iconst 0, [0, 0]), (3, .putfield 46, [0, 3, 13, 249]), (1, .aload_n 0, []), (1, .iconst 0, [0, 0]), (3, .putfield 49, [0, 3, 14, 251]), (1, .aload_n 0, []), (3, .invokevirtual 52, [0, 3, 19, 1, 0, 580]), (1, .return_, [])])]
def bk_R_come : List jx_B := [
  (0, [0, 1, 2, 3], [(1, .aload_n 0, []), (3, .getfield 30, [0, 3, 3, 230]), (1, .iconst 1, [0, 1]), (1, .iand, []), (3, .ifCond .eq 25, [1]), (1, .iload_n 1, []), (2, .bipush 65, [0, 65]), (3, .if_icmp .lt 19, [1]), (1, .iload_n 1, []), (2, .bipush 90, [0, 90]), (3, .if_icmp .gt 13, [1]), (1, .iload_n 1, []), (2, .bipush 65, [0, 65]), (1, .isub, []), (2, .bipush 97, [0, 97]), (1, .iadd, []), (3, .goto 4, [2])]),
  (31, [0, 1, 2, 3], [(1, .iload_n 1, []), (0, .nop, [2])]),
  (32, [0, 2, 3], [(2, .istore 4, []), (1, .aload_n 0, []), (2, .iload 4, []), (3, .invokevirtual 89, [0, 3, 17, 2, 1, 619]), (3, .ifCond .eq 4, [3]), (1, .return_, [])]),
  (44, [0, 2, 3, 4], [(1, .aload_n 0, []), (2, .iload 4, []), (2, .bipush 32, [0, 32]), (3, .if_icmp .ne 7, [4]), (1, .iconst 1, [0, 1]), (3, .goto 4, [5])]),
  (56, [0, 2, 3, 4], [(1, .iconst 0, [0, 0]), (0, .nop, [5])]),
  (57, [0, 2, 3, 4], [(3, .putfield 36, [3, 3, 6, 236]), (1, .aload_n 0, []), (3, .getfield 9, [2, 3, 9, 243]), (1, .aload_n 0, []), (3, .getfield 40, [0, 3, 11, 245]), (2, .bipush 8, [0, 8]), (1, .irem, []), (2, .iload 4, []), (1, .iastore, []), (1, .aload_n 0, []), (3, .getfield 15, [2, 3, 10, 244]), (1, .aload_n 0, []), (3, .getfield 40, [0, 3, 11, 245]), (2, .bipush 8, [0, 8]), (1, .irem, []), (1, .iload_n 2, []), (1, .iastore, []), (1, .aload_n 0, []), (1, .dup, []), (3, .getfield 40, [0, 3, 11, 245]), (1, .iconst 1, [0, 1]), (1, .iadd, []), (3, .putfield 40, [0, 3, 11, 245]), (2, .iload 4, []), (3, .invokestatic 93, [1, 4, 1, 1, 3]), (3, .ifCond .ne 8, [6]), (1, .aload_n 0, []), (3, .invokevirtual 52, [0, 3, 19, 1, 0, 580]), (1, .return_, [])]),
  (110, [0, 3, 4], [(1, .aload_n 0, []), (1, .aload_n 0, []), (3, .getfield 18, [2, 3, 0, 227]), (1, .aload_n 0, []), (3, .getfield 55, [0, 3, 7, 237]), (2, .iload 4, []), (2, .bipush 97, [0, 97]), (1, .isub, []), (3, .invokevirtual 96, [0, 0, 9, 3, 1, 624]), (3, .putfield 55, [0, 3, 7, 237]), (1, .aload_n 0, []), (1, .aload_n 0, []), (3, .getfield 18, [2, 3, 0, 227]), (1, .aload_n 0, []), (3, .getfield 58, [1, 3, 8, 240]), (2, .iload 4, []), (2, .bipush 97, [0, 97]), (1, .isub, []), (3, .invokevirtual 100, [0, 0, 10, 3, 2, 625]), (3, .putfield 58, [1, 3, 8, 240]), (1, .aload_n 0, []), (3, .getfield 18, [2, 3, 0, 227]), (3, .getfield 103, [2, 0, 5, 115]), (1, .aload_n 0, []), (3, .getfield 55, [0, 3, 7, 237]), (1, .iaload, [0]), (2, .istore 5, []), (1, .aload_n 0, []), (3, .getfield 18, [2, 3, 0, 227]), (1, .aload_n 0, []), (3, .getfield 58, [1, 3, 8, 240]), (3, .invokevirtual 106, [0, 0, 11, 2, 1, 629]), (2, .iload 5, []), (1, .iconst (-1), [1, 1]), (1, .ixor, []), (1, .iand, []), (2, .istore 6, []), (1, .iconst 0, [0, 0]), (2, .istore 7, []), (0, .nop, [7])]),
  (185, [0, 3, 5, 6, 7], [(2, .iload 7, []), (2, .bipush 6, [0, 6]), (3, .if_icmp .ge 47, [9]), (2, .iload 5, []), (2, .iload 7, []), (1, .ishr, []), (1, .iconst 1, [0, 1]), (1, .iand, []), (3, .ifCond .eq 31, [8]), (1, .aload_n 0, []), (3, .getfield 22, [2, 3, 1, 228]), (1, .aload_n 0, []), (3, .getfield 26, [0, 3, 2, 229]), (2, .iload 7, []), (1, .aload_n 0, []), (1, .aload_n 0, []), (3, .getfield 18, [2, 3, 0, 227]), (3, .getfield 110, [2, 0, 6, 117]), (2, .iload 7, []), (1, .iaload, [0]), (3, .invokevirtual 113, [0, 3, 15, 2, 1, 633]), (1, .iload_n 3, []), (3, .invokevirtual 116, [0, 1, 12, 5, 0, 637]), (0, .nop, [8])]),
  (230, [0, 3, 5, 6, 7], [(3, .iinc 7 1, [0, 1]), (3, .goto (-48), [7])]),
  (236, [0, 3, 5, 6], [(1, .iconst 0, [0, 0]), (2, .istore 7, []), (0, .nop, [10])]),
  (239, [0, 3, 5, 6, 7], [(2, .iload 7, []), (2, .bipush 6, [0, 6]), (3, .if_icmp .ge 35, [12]), (2, .iload 6, []), (2, .iload 7, []), (1, .ishr, []), (1, .iconst 1, [0, 1]), (1, .iand, []), (3, .ifCond .eq 19, [11]), (1, .aload_n 0, []), (3, .getfield 22, [2, 3, 1, 228]), (1, .aload_n 0, []), (3, .getfield 26, [0, 3, 2, 229]), (2, .iload 7, []), (2, .bipush (-9), [1, 9]), (1, .iload_n 3, []), (3, .invokevirtual 116, [0, 1, 12, 5, 0, 637]), (0, .nop, [11])]),
  (272, [0, 3, 5, 6, 7], [(3, .iinc 7 1, [0, 1]), (3, .goto (-36), [10])]),
  (278, [0, 5, 6], [(1, .aload_n 0, []), (1, .dup, []), (3, .getfield 43, [0, 3, 12, 247]), (2, .iload 5, []), (3, .invokestatic 122, [0, 44, 1, 1, 641]), (1, .iadd, []), (3, .putfield 43, [0, 3, 12, 247]), (1, .aload_n 0, []), (1, .dup, []), (3, .getfield 46, [0, 3, 13, 249]), (2, .iload 6, []), (3, .invokestatic 122, [0, 44, 1, 1, 641]), (1, .iadd, []), (3, .putfield 46, [0, 3, 13, 249]), (1, .aload_n 0, []), (1, .dup, []), (3, .getfield 49, [0, 3, 14, 251]), (2, .iload 5, []), (1, .ior, []), (3, .putfield 49, [0, 3, 14, 251]), (1, .return_, [])])]
def bk_R_copyFrom : List jx_B := [
  (0, [0, 1], [(1, .aload_n 0, []), (1, .aload_n 1, []), (3, .getfield 26, [0, 3, 2, 229]), (3, .putfield 26, [0, 3, 2, 229]), (1, .aload_n 0, []), (1, .aload_n 1, []), (3, .getfield 30, [0, 3, 3, 230]), (3, .putfield 30, [0, 3, 3, 230]), (1, .aload_n 0, []), (1, .aload_n 1, []), (3, .getfield 33, [0, 3, 4, 233]), (3, .putfield 33, [0, 3, 4, 233]), (1, .aload_n 0, []), (1, .aload_n 1, []), (3, .getfield 62, [0, 3, 5, 235]), (3, .putfield 62, [0, 3, 5, 235]), (1, .aload_n 0, []), (1, .aload_n 1, []), (3, .getfield 36, [0, 3, 6, 236]), (3, .putfield 36, [3, 3, 6, 236]), (1, .aload_n 0, []), (1, .aload_n 1, []), (3, .getfield 55, [0, 3, 7, 237]), (3, .putfield 55, [0, 3, 7, 237]), (1, .aload_n 0, []), (1, .aload_n 1, []), (3, .getfield 58, [1, 3, 8, 240]), (3, .putfield 58, [1, 3, 8, 240]), (1, .aload_n 1, []), (3, .getfield 9, [2, 3, 9, 243]), (1, .iconst 0, [0, 0]), (1, .aload_n 0, []), (3, .getfield 9, [2, 3, 9, 243]), (1, .iconst 0, [0, 0]), (2, .bipush 8, [0, 8]), (3, .invokestatic 65, [2, 453, 421, 420, 84]), (1, .aload_n 1, []), (3, .getfield 15, [2, 3, 10, 244]), (1, .iconst 0, [0, 0]), (1, .aload_n 0, []), (3, .getfield 15, [2, 3, 10, 244]), (1, .iconst 0, [0, 0]), (2, .bipush 8, [0, 8]), (3, .invokestatic 65, [2, 453, 421, 420, 84]), (1, .aload_n 0, []), (1, .aload_n 1, []), (3, .getfield 40, [0, 3, 11, 245]), (3, .putfield 40, [0, 3, 11, 245]), (1, .aload_n 0, []), (1, .aload_n 1, []), (3, .getfield 43, [0, 3, 12, 247]), (3, .putfield 43, [0, 3, 12, 247]), (1, .aload_n 0, []), (1, .aload_n 1, []), (3, .getfield 46, [0, 3, 13, 249]), (3, .putfield 46, [0, 3, 13, 249]), (1, .aload_n 0, []), (1, .aload_n 1, []), (3, .getfield 49, [0, 3, 14, 251]), (3, .putfield 49, [0, 3, 14, 251]), (1, .return_, [])])]
def bk_Sg_init : List jx_B := [
  (0, [0, 1], [(1, .aload_n 0, []), (3, .invokespecial 3, [2, 200, 95, 96]), (1, .aload_n 0, []), (1, .iconst 0, [0, 0]), (3, .putfield 9, [0, 4, 0, 201]), (1, .aload_n 0, []), (1, .iload_n 1, []), (2, .newarray .int, [140]), (3, .putfield 15, [2, 4, 1, 204]), (1, .aload_n 0, []), (1, .iload_n 1, []), (2, .newarray .int, [140]), (3, .putfield 19, [2, 4, 2, 207]), (1, .aload_n 0, []), (1, .iload_n 1, []), (2, .bipush 40, [0, 40]), (1, .imul, []), (2, .newarray .byte, [139]), (3, .putfield 22, [2, 4, 3, 210]), (1, .return_, [])])]
def bk_Sg_byteFor : List jx_B := [
  (0, [0, 1, 2], [(1, .aload_n 0, []), (1, .iload_n 1, []), (1, .iload_n 2, []), (3, .invokevirtual 44, [0, 4, 20, 3, 1, 606]), (3, .ifCond .eq 24, [1]), (1, .aload_n 0, []), (3, .getfield 22, [2, 4, 3, 210]), (1, .iload_n 1, []), (2, .bipush 40, [0, 40]), (1, .imul, []), (1, .iload_n 2, []), (1, .iadd, []), (1, .aload_n 0, []), (3, .getfield 15, [2, 4, 1, 204]), (1, .iload_n 1, []), (1, .iaload, [0]), (1, .isub, []), (1, .baload, []), (3, .goto 5, [2])]),
  (30, [], [(2, .bipush (-9), [1, 9]), (0, .nop, [2])]),
  (32, [], [(1, .ireturn, [0])])]
def bk_Sg_isCoveredBefore : List jx_B := [
  (0, [0, 1, 2], [(1, .iconst 0, [0, 0]), (1, .istore_n 3, []), (0, .nop, [1])]),
  (2, [0, 1, 2, 3], [(1, .iload_n 3, []), (1, .iload_n 1, []), (3, .if_icmp .ge 20, [3]), (1, .aload_n 0, []), (1, .iload_n 3, []), (1, .iload_n 2, []), (3, .invokevirtual 44, [0, 4, 20, 3, 1, 606]), (3, .ifCond .eq 5, [2]), (1, .iconst 1, [0, 1]), (1, .ireturn, [1])]),
  (18, [0, 1, 2, 3], [(3, .iinc 3 1, [0, 1]), (3, .goto (-19), [1])]),
  (24, [], [(1, .iconst 0, [0, 0]), (1, .ireturn, [1])])]
def bk_Sg_put : List jx_B := [
  (0, [0, 1, 2, 3, 4, 5], [(1, .aload_n 0, []), (3, .getfield 15, [2, 4, 1, 204]), (1, .iload_n 1, []), (2, .iload 5, []), (1, .iastore, []), (1, .aload_n 0, []), (3, .getfield 19, [2, 4, 2, 207]), (1, .iload_n 1, []), (2, .iload 4, []), (1, .iastore, []), (1, .aload_n 2, []), (1, .iload_n 3, []), (1, .aload_n 0, []), (3, .getfield 22, [2, 4, 3, 210]), (1, .iload_n 1, []), (2, .bipush 40, [0, 40]), (1, .imul, []), (2, .iload 4, []), (3, .invokestatic 38, [3, 448, 421, 420, 84]), (1, .return_, [])])]
def bk_Sg_smallestStart : List jx_B := [
  (0, [0], [(3, .sipush 1040, [0, 1040]), (1, .istore_n 1, []), (1, .iconst 0, [0, 0]), (1, .istore_n 2, []), (0, .nop, [1])]),
  (6, [0, 1, 2], [(1, .iload_n 2, []), (1, .aload_n 0, []), (3, .getfield 9, [0, 4, 0, 201]), (3, .if_icmp .ge 20, [2]), (1, .iload_n 1, []), (1, .aload_n 0, []), (3, .getfield 15, [2, 4, 1, 204]), (1, .iload_n 2, []), (1, .iaload, [0]), (3, .invokestatic 57, [4, 677, 459, 85, 460]), (1, .istore_n 1, []), (3, .iinc 2 1, [0, 1]), (3, .goto (-22), [1])]),
  (31, [1], [(1, .iload_n 1, []), (1, .ireturn, [0])])]
def bk_St_remove : List jx_B := [
  (0, [0, 1], [(1, .aload_n 0, []), (1, .iload_n 1, []), (3, .invokevirtual 75, [0, 5, 22, 2, 3, 568]), (1, .pop, []), (1, .aload_n 0, []), (1, .dup, []), (3, .getfield 28, [0, 5, 4, 336]), (1, .iconst 1, [0, 1]), (1, .isub, []), (3, .putfield 28, [0, 5, 4, 336]), (1, .return_, [])])]
def bk_Wo_init : List jx_B := [
  (0, [0], [(1, .aload_n 0, []), (3, .invokespecial 3, [2, 179, 95, 96]), (1, .aload_n 0, []), (2, .bipush 6, [0, 6]), (2, .newarray .int, [140]), (3, .putfield 9, [2, 6, 0, 180]), (1, .aload_n 0, []), (2, .bipush 48, [0, 48]), (2, .newarray .byte, [139]), (3, .putfield 15, [2, 6, 1, 182]), (1, .return_, [])])]
def bk_Wo_copyFrom : List jx_B := [
  (0, [0, 1], [(1, .aload_n 1, []), (3, .getfield 9, [2, 6, 0, 180]), (1, .iconst 0, [0, 0]), (1, .aload_n 0, []), (3, .getfield 9, [2, 6, 0, 180]), (1, .iconst 0, [0, 0]), (2, .bipush 6, [0, 6]), (3, .invokestatic 19, [2, 419, 421, 420, 84]), (1, .aload_n 1, []), (3, .getfield 15, [2, 6, 1, 182]), (1, .iconst 0, [0, 0]), (1, .aload_n 0, []), (3, .getfield 15, [2, 6, 1, 182]), (1, .iconst 0, [0, 0]), (2, .bipush 48, [0, 48]), (3, .invokestatic 19, [3, 419, 421, 420, 84]), (1, .return_, [])])]
def bk_Wo_definedSet : List jx_B := [
  (0, [0], [(1, .iconst 0, [0, 0]), (1, .istore_n 1, []), (1, .iconst 0, [0, 0]), (1, .istore_n 2, []), (0, .nop, [1])]),
  (4, [0, 1, 2], [(1, .iload_n 2, []), (2, .bipush 6, [0, 6]), (3, .if_icmp .ge 23, [3]), (1, .aload_n 0, []), (1, .iload_n 2, []), (3, .invokevirtual 31, [0, 6, 24, 2, 1, 763]), (3, .ifCond .eq 9, [2]), (1, .iload_n 1, []), (1, .iconst 1, [0, 1]), (1, .iload_n 2, []), (1, .ishl, []), (1, .ior, []), (1, .istore_n 1, []), (0, .nop, [2])]),
  (24, [0, 1, 2], [(3, .iinc 2 1, [0, 1]), (3, .goto (-23), [1])]),
  (30, [1], [(1, .iload_n 1, []), (1, .ireturn, [0])])]
def bk_Wo_put : List jx_B := [
  (0, [0, 1, 2, 3], [(1, .iconst 0, [0, 0]), (2, .istore 4, []), (0, .nop, [1])]),
  (3, [0, 1, 2, 3, 4], [(2, .iload 4, []), (1, .iload_n 3, []), (3, .if_icmp .ge 43, [2]), (2, .iload 4, []), (2, .bipush 8, [0, 8]), (3, .if_icmp .ge 36, [2]), (2, .iload 4, []), (1, .aload_n 2, []), (1, .arraylength, [2]), (3, .if_icmp .ge 29, [2]), (1, .aload_n 0, []), (3, .getfield 15, [2, 6, 1, 182]), (1, .iload_n 1, []), (2, .bipush 8, [0, 8]), (1, .imul, []), (2, .iload 4, []), (1, .iadd, []), (1, .aload_n 2, []), (2, .iload 4, []), (1, .baload, []), (2, .bipush 97, [0, 97]), (1, .isub, []), (1, .i2b, []), (1, .bastore, []), (3, .iinc 4 1, [0, 1]), (3, .goto (-43), [1])]),
  (49, [0, 1, 3], [(1, .aload_n 0, []), (3, .getfield 9, [2, 6, 0, 180]), (1, .iload_n 1, []), (1, .iload_n 3, []), (2, .bipush 8, [0, 8]), (3, .invokestatic 25, [4, 458, 459, 85, 460]), (1, .iastore, []), (1, .return_, [])])]
def bk_M_begins : List jx_B := [
  (0, [0], [(1, .aload_n 0, []), (3, .getfield 46, [0, 8, 1, 852]), (1, .iconst 4, [0, 4]), (3, .if_icmp .ne 34, [3]), (1, .iconst 1, [0, 1]), (1, .istore_n 1, []), (0, .nop, [1])]),
  (10, [0, 1], [(1, .iload_n 1, []), (1, .iconst 4, [0, 4]), (3, .if_icmp .ge 17, [2]), (1, .aload_n 0, []), (1, .iload_n 1, []), (1, .iconst 1, [0, 1]), (1, .iadd, []), (1, .iload_n 1, []), (3, .invokevirtual 50, [0, 8, 29, 3, 0, 929]), (3, .iinc 1 1, [0, 1]), (3, .goto (-16), [1])]),
  (29, [0], [(1, .aload_n 0, []), (1, .dup, []), (3, .getfield 46, [0, 8, 1, 852]), (1, .iconst 1, [0, 1]), (1, .isub, []), (3, .putfield 46, [0, 8, 1, 852]), (0, .nop, [3])]),
  (39, [0], [(1, .aload_n 0, []), (1, .dup, []), (3, .getfield 46, [0, 8, 1, 852]), (1, .iconst 1, [0, 1]), (1, .iadd, []), (3, .putfield 46, [0, 8, 1, 852]), (1, .aload_n 0, []), (1, .iconst 0, [0, 0]), (1, .aload_n 0, []), (3, .getfield 46, [0, 8, 1, 852]), (3, .invokevirtual 50, [0, 8, 29, 3, 0, 929]), (1, .return_, [])])]
def bk_M_byteOf : List jx_B := [
  (0, [0, 1, 2], [(1, .aload_n 0, []), (3, .getfield 7, [2, 8, 0, 851]), (1, .aload_n 0, []), (1, .iload_n 1, []), (3, .invokevirtual 161, [0, 8, 39, 2, 1, 1009]), (1, .iconst 2, [0, 2]), (1, .iadd, []), (1, .iload_n 2, []), (1, .iadd, []), (1, .aload_n 0, []), (3, .getfield 7, [2, 8, 0, 851]), (1, .aload_n 0, []), (1, .iload_n 1, []), (3, .invokevirtual 161, [0, 8, 39, 2, 1, 1009]), (1, .iaload, [0]), (1, .isub, []), (1, .iaload, [0]), (1, .ireturn, [0])])]
def bk_M_covers : List jx_B := [
  (0, [0, 1, 2], [(1, .aload_n 0, []), (3, .getfield 7, [2, 8, 0, 851]), (1, .aload_n 0, []), (1, .iload_n 1, []), (3, .invokevirtual 161, [0, 8, 39, 2, 1, 1009]), (1, .iaload, [0]), (1, .istore_n 3, []), (1, .iload_n 2, []), (1, .aload_n 0, []), (1, .iconst 4, [0, 4]), (3, .invokevirtual 112, [0, 8, 37, 2, 1, 993]), (3, .if_icmp .lt 30, [1]), (1, .iload_n 2, []), (1, .iload_n 3, []), (3, .if_icmp .lt 25, [1]), (1, .iload_n 2, []), (1, .iload_n 3, []), (1, .aload_n 0, []), (3, .getfield 7, [2, 8, 0, 851]), (1, .aload_n 0, []), (1, .iload_n 1, []), (3, .invokevirtual 161, [0, 8, 39, 2, 1, 1009]), (1, .iconst 1, [0, 1]), (1, .iadd, []), (1, .iaload, [0]), (1, .iadd, []), (3, .if_icmp .ge 7, [1]), (1, .iconst 1, [0, 1]), (3, .goto 4, [2])]),
  (47, [], [(1, .iconst 0, [0, 0]), (0, .nop, [2])]),
  (48, [], [(1, .ireturn, [1])])]
def bk_M_definedSet : List jx_B := [
  (0, [0], [(1, .iconst 0, [0, 0]), (1, .istore_n 1, []), (1, .iconst 0, [0, 0]), (1, .istore_n 2, []), (0, .nop, [1])]),
  (4, [0, 1, 2], [(1, .iload_n 2, []), (2, .bipush 6, [0, 6]), (3, .if_icmp .ge 27, [4]), (1, .iload_n 1, []), (1, .aload_n 0, []), (1, .iload_n 2, []), (3, .invokevirtual 64, [0, 8, 43, 2, 1, 819]), (3, .ifCond .le 9, [2]), (1, .iconst 1, [0, 1]), (1, .iload_n 2, []), (1, .ishl, []), (3, .goto 4, [3])]),
  (25, [0, 2], [(1, .iconst 0, [0, 0]), (0, .nop, [3])]),
  (26, [0, 2], [(1, .ior, []), (1, .istore_n 1, []), (3, .iinc 2 1, [0, 1]), (3, .goto (-27), [1])]),
  (34, [1], [(1, .iload_n 1, []), (1, .ireturn, [0])])]
def bk_M_drops : List jx_B := [
  (0, [0], [(1, .aload_n 0, []), (1, .iconst 5, [0, 5]), (3, .invokevirtual 112, [0, 8, 37, 2, 1, 993]), (1, .iconst 1, [0, 1]), (1, .isub, []), (1, .istore_n 1, []), (0, .nop, [1])]),
  (8, [0, 1], [(1, .iload_n 1, []), (3, .ifCond .lt 88, [5]), (1, .aload_n 0, []), (3, .getfield 7, [2, 8, 0, 851]), (1, .aload_n 0, []), (1, .iload_n 1, []), (3, .invokevirtual 161, [0, 8, 39, 2, 1, 1009]), (1, .iaload, [0]), (1, .aload_n 0, []), (3, .getfield 7, [2, 8, 0, 851]), (1, .aload_n 0, []), (1, .iload_n 1, []), (3, .invokevirtual 161, [0, 8, 39, 2, 1, 1009]), (1, .iconst 1, [0, 1]), (1, .iadd, []), (1, .iaload, [0]), (1, .iadd, []), (1, .aload_n 0, []), (1, .iconst 4, [0, 4]), (3, .invokevirtual 112, [0, 8, 37, 2, 1, 993]), (3, .if_icmp .gt 51, [4]), (1, .aload_n 0, []), (1, .iload_n 1, []), (3, .invokevirtual 161, [0, 8, 39, 2, 1, 1009]), (1, .istore_n 2, []), (0, .nop, [2])]),
  (49, [0, 1, 2], [(1, .iload_n 2, []), (1, .aload_n 0, []), (1, .aload_n 0, []), (1, .iconst 5, [0, 5]), (3, .invokevirtual 112, [0, 8, 37, 2, 1, 993]), (1, .iconst 1, [0, 1]), (1, .isub, []), (3, .invokevirtual 161, [0, 8, 39, 2, 1, 1009]), (3, .if_icmp .ge 24, [3]), (1, .aload_n 0, []), (3, .getfield 7, [2, 8, 0, 851]), (1, .iload_n 2, []), (1, .aload_n 0, []), (3, .getfield 7, [2, 8, 0, 851]), (1, .iload_n 2, []), (2, .bipush 42, [0, 42]), (1, .iadd, []), (1, .iaload, [0]), (1, .iastore, []), (3, .iinc 2 1, [0, 1]), (3, .goto (-33), [2])]),
  (85, [0, 1], [(1, .aload_n 0, []), (1, .iconst 5, [0, 5]), (1, .iconst (-1), [1, 1]), (3, .invokevirtual 121, [0, 8, 27, 3, 0, 997]), (0, .nop, [4])]),
  (91, [0, 1], [(3, .iinc 1 (-1), [1, 1]), (3, .goto (-86), [1])]),
  (97, [], [(1, .return_, [])])]
def bk_M_endsWith : List jx_B := [
  (0, [0, 1, 2], [(1, .aload_n 0, []), (3, .getfield 16, [2, 8, 5, 856]), (1, .iload_n 1, []), (1, .iaload, [0]), (1, .aload_n 0, []), (1, .iload_n 2, []), (3, .invokevirtual 64, [0, 8, 43, 2, 1, 819]), (1, .isub, []), (1, .istore_n 3, []), (1, .aload_n 0, []), (1, .iload_n 2, []), (3, .invokevirtual 64, [0, 8, 43, 2, 1, 819]), (3, .ifCond .le 11, [1]), (1, .iload_n 3, []), (3, .ifCond .lt 7, [1]), (1, .iconst 1, [0, 1]), (3, .goto 4, [2])]),
  (29, [0, 1, 2, 3], [(1, .iconst 0, [0, 0]), (0, .nop, [2])]),
  (30, [0, 1, 2, 3], [(2, .istore 4, []), (1, .iconst 0, [0, 0]), (2, .istore 5, []), (0, .nop, [3])]),
  (35, [0, 1, 2, 3, 4, 5], [(2, .iload 5, []), (1, .aload_n 0, []), (1, .iload_n 2, []), (3, .invokevirtual 64, [0, 8, 43, 2, 1, 819]), (3, .if_icmp .ge 45, [6]), (2, .iload 4, []), (3, .ifCond .eq 40, [6]), (1, .aload_n 0, []), (3, .getfield 19, [2, 8, 6, 857]), (2, .bipush 8, [0, 8]), (1, .iload_n 1, []), (1, .imul, []), (1, .iload_n 3, []), (1, .iadd, []), (2, .iload 5, []), (1, .iadd, []), (1, .iaload, [0]), (1, .aload_n 0, []), (1, .iload_n 2, []), (2, .iload 5, []), (3, .invokevirtual 68, [0, 8, 34, 3, 1, 823]), (3, .if_icmp .ne 7, [4]), (1, .iconst 1, [0, 1]), (3, .goto 4, [5])]),
  (78, [0, 1, 2, 3, 5], [(1, .iconst 0, [0, 0]), (0, .nop, [5])]),
  (79, [0, 1, 2, 3, 5], [(2, .istore 4, []), (3, .iinc 5 1, [0, 1]), (3, .goto (-49), [3])]),
  (87, [4], [(2, .iload 4, []), (1, .ireturn, [1])])]
def bk_M_faultOf : List jx_B := [
  (0, [0], [(1, .iconst 0, [0, 0]), (1, .istore_n 1, []), (0, .nop, [1])]),
  (2, [0, 1], [(1, .iload_n 1, []), (1, .aload_n 0, []), (3, .getfield 89, [0, 8, 3, 854]), (3, .if_icmp .ge 33, [4]), (1, .iload_n 1, []), (2, .bipush 8, [0, 8]), (3, .if_icmp .eq 19, [2]), (1, .aload_n 0, []), (3, .getfield 13, [2, 8, 2, 853]), (1, .iload_n 1, []), (1, .iaload, [0]), (2, .bipush 97, [0, 97]), (2, .bipush 122, [0, 122]), (3, .invokestatic 85, [0, 32, 3, 1, 907]), (3, .ifCond .ne 5, [3]), (0, .nop, [2])]),
  (32, [1], [(1, .iload_n 1, []), (1, .ireturn, [0])]),
  (34, [0, 1], [(3, .iinc 1 1, [0, 1]), (3, .goto (-35), [1])]),
  (40, [0], [(1, .aload_n 0, []), (3, .getfield 89, [0, 8, 3, 854]), (3, .ifCond .ne 7, [5]), (1, .iconst 0, [0, 0]), (3, .goto 5, [6])]),
  (51, [], [(2, .bipush (-9), [1, 9]), (0, .nop, [6])]),
  (53, [], [(1, .ireturn, [0])])]
def bk_M_find : List jx_B := [
  (0, [0, 1, 2], [(1, .iload_n 1, []), (3, .ifCond .lt 12, [1]), (1, .iload_n 2, []), (1, .iconst 0, [0, 0]), (1, .iconst 3, [0, 3]), (3, .invokestatic 85, [0, 32, 3, 1, 907]), (3, .ifCond .ne 5, [2]), (0, .nop, [1])]),
  (13, [], [(1, .iconst (-1), [1, 1]), (1, .ireturn, [0])]),
  (15, [0, 1, 2], [(1, .iload_n 1, []), (1, .aload_n 0, []), (3, .getfield 7, [2, 8, 0, 851]), (2, .bipush 62, [0, 62]), (1, .iaload, [0]), (3, .if_icmp .ge 29, [3]), (1, .aload_n 0, []), (3, .getfield 7, [2, 8, 0, 851]), (2, .bipush 66, [0, 66]), (1, .iconst 4, [0, 4]), (1, .aload_n 0, []), (3, .getfield 7, [2, 8, 0, 851]), (2, .bipush 62, [0, 62]), (1, .iaload, [0]), (1, .iconst 1, [0, 1]), (1, .isub, []), (1, .iload_n 1, []), (1, .isub, []), (1, .imul, []), (1, .iadd, []), (1, .iload_n 2, []), (1, .iadd, []), (1, .iaload, [0]), (3, .goto 5, [4])]),
  (52, [], [(2, .bipush (-9), [1, 9]), (0, .nop, [4])]),
  (54, [], [(1, .ireturn, [0])])]
def bk_M_flow : List jx_B := [
  (0, [0, 1], [(1, .iload_n 1, []), (3, .ifCond .ge 7, [1]), (1, .iconst (-1), [1, 1]), (3, .goto 31, [3])]),
  (8, [0, 1], [(1, .iload_n 1, []), (1, .aload_n 0, []), (3, .getfield 7, [2, 8, 0, 851]), (2, .bipush 57, [0, 57]), (1, .iaload, [0]), (3, .if_icmp .ge 18, [2]), (1, .aload_n 0, []), (3, .getfield 7, [2, 8, 0, 851]), (1, .aload_n 0, []), (1, .iload_n 1, []), (3, .invokevirtual 92, [0, 8, 41, 2, 1, 937]), (1, .iconst 0, [0, 0]), (1, .iadd, []), (1, .iaload, [0]), (3, .goto 5, [3])]),
  (34, [], [(2, .bipush (-9), [1, 9]), (0, .nop, [3])]),
  (36, [], [(1, .ireturn, [0])])]
def bk_M_has : List jx_B := [
  (0, [0, 1], [(1, .aload_n 0, []), (1, .iconst 2, [0, 2]), (3, .invokevirtual 112, [0, 8, 37, 2, 1, 993]), (1, .iload_n 1, []), (1, .iand, []), (3, .ifCond .eq 7, [1]), (1, .iconst 1, [0, 1]), (3, .goto 4, [2])]),
  (14, [], [(1, .iconst 0, [0, 0]), (0, .nop, [2])]),
  (15, [], [(1, .ireturn, [1])])]
def bk_M_hexOf : List jx_B := [
  (0, [0], [(1, .iload_n 0, []), (2, .bipush 48, [0, 48]), (2, .bipush 57, [0, 57]), (3, .invokestatic 85, [0, 32, 3, 1, 907]), (3, .ifCond .eq 10, [1]), (1, .iload_n 0, []), (2, .bipush 48, [0, 48]), (1, .isub, []), (3, .goto 47, [4])]),
  (18, [0], [(1, .iload_n 0, []), (2, .bipush 65, [0, 65]), (2, .bipush 70, [0, 70]), (3, .invokestatic 85, [0, 32, 3, 1, 907]), (3, .ifCond .eq 13, [2]), (1, .iload_n 0, []), (2, .bipush 65, [0, 65]), (1, .isub, []), (2, .bipush 10, [0, 10]), (1, .iadd, []), (3, .goto 26, [4])]),
  (39, [0], [(1, .iload_n 0, []), (2, .bipush 97, [0, 97]), (2, .bipush 102, [0, 102]), (3, .invokestatic 85, [0, 32, 3, 1, 907]), (3, .ifCond .eq 13, [3]), (1, .iload_n 0, []), (2, .bipush 97, [0, 97]), (1, .isub, []), (2, .bipush 10, [0, 10]), (1, .iadd, []), (3, .goto 5, [4])]),
  (60, [], [(2, .bipush (-9), [1, 9]), (0, .nop, [4])]),
  (62, [], [(1, .ireturn, [0])])]
def bk_M_inserts : List jx_B := [
  (0, [0, 1], [(1, .iconst 0, [0, 0]), (1, .istore_n 2, []), (0, .nop, [1])]),
  (2, [0, 1, 2], [(1, .iload_n 2, []), (1, .aload_n 0, []), (3, .getfield 54, [0, 8, 4, 855]), (3, .if_icmp .ge 38, [3]), (1, .aload_n 0, []), (3, .getfield 16, [2, 8, 5, 856]), (1, .iload_n 2, []), (1, .iaload, [0]), (1, .iload_n 1, []), (3, .if_icmp .lt 22, [2]), (1, .aload_n 0, []), (3, .getfield 16, [2, 8, 5, 856]), (1, .iload_n 2, []), (1, .iaload, [0]), (1, .iload_n 1, []), (3, .if_icmp .ne 18, [3]), (1, .aload_n 0, []), (1, .iload_n 2, []), (1, .iload_n 1, []), (3, .invokevirtual 57, [0, 8, 38, 3, 1, 831]), (3, .ifCond .ge 9, [3]), (0, .nop, [2])]),
  (39, [0, 1, 2], [(3, .iinc 2 1, [0, 1]), (3, .goto (-40), [1])]),
  (45, [0, 1, 2], [(1, .iload_n 2, []), (1, .aload_n 0, []), (3, .getfield 54, [0, 8, 4, 855]), (3, .if_icmp .ge 23, [4]), (1, .aload_n 0, []), (3, .getfield 16, [2, 8, 5, 856]), (1, .iload_n 2, []), (1, .iaload, [0]), (1, .iload_n 1, []), (3, .if_icmp .ne 13, [4]), (1, .aload_n 0, []), (1, .iload_n 2, []), (1, .iload_n 1, []), (3, .invokevirtual 57, [0, 8, 38, 3, 1, 831]), (3, .ifCond .ne 4, [4]), (1, .return_, [])]),
  (73, [0, 1, 2], [(1, .aload_n 0, []), (3, .getfield 54, [0, 8, 4, 855]), (1, .istore_n 3, []), (0, .nop, [5])]),
  (78, [0, 1, 2, 3], [(1, .iload_n 3, []), (1, .iload_n 2, []), (3, .if_icmp .le 65, [8]), (1, .aload_n 0, []), (3, .getfield 16, [2, 8, 5, 856]), (1, .iload_n 3, []), (1, .aload_n 0, []), (3, .getfield 16, [2, 8, 5, 856]), (1, .iload_n 3, []), (1, .iconst 1, [0, 1]), (1, .isub, []), (1, .iaload, [0]), (1, .iastore, []), (1, .iconst 0, [0, 0]), (2, .istore 4, []), (0, .nop, [6])]),
  (100, [0, 1, 2, 3, 4], [(2, .iload 4, []), (2, .bipush 8, [0, 8]), (3, .if_icmp .ge 35, [7]), (1, .aload_n 0, []), (3, .getfield 19, [2, 8, 6, 857]), (2, .bipush 8, [0, 8]), (1, .iload_n 3, []), (1, .imul, []), (2, .iload 4, []), (1, .iadd, []), (1, .aload_n 0, []), (3, .getfield 19, [2, 8, 6, 857]), (2, .bipush 8, [0, 8]), (1, .iload_n 3, []), (1, .iconst 1, [0, 1]), (1, .isub, []), (1, .imul, []), (2, .iload 4, []), (1, .iadd, []), (1, .iaload, [0]), (1, .iastore, []), (3, .iinc 4 1, [0, 1]), (3, .goto (-36), [6])]),
  (139, [0, 1, 2, 3], [(3, .iinc 3 (-1), [1, 1]), (3, .goto (-64), [5])]),
  (145, [0, 1, 2], [(1, .aload_n 0, []), (3, .getfield 16, [2, 8, 5, 856]), (1, .iload_n 2, []), (1, .iload_n 1, []), (1, .iastore, []), (1, .iconst 0, [0, 0]), (1, .istore_n 3, []), (0, .nop, [9])]),
  (154, [0, 1, 2, 3], [(1, .iload_n 3, []), (1, .iload_n 1, []), (3, .if_icmp .ge 26, [10]), (1, .aload_n 0, []), (3, .getfield 19, [2, 8, 6, 857]), (2, .bipush 8, [0, 8]), (1, .iload_n 2, []), (1, .imul, []), (1, .iload_n 3, []), (1, .iadd, []), (1, .aload_n 0, []), (3, .getfield 34, [2, 8, 11, 862]), (1, .iload_n 3, []), (1, .iaload, [0]), (1, .iastore, []), (3, .iinc 3 1, [0, 1]), (3, .goto (-25), [9])]),
  (182, [0], [(1, .aload_n 0, []), (1, .dup, []), (3, .getfield 54, [0, 8, 4, 855]), (1, .iconst 1, [0, 1]), (1, .iadd, []), (3, .putfield 54, [0, 8, 4, 855]), (1, .return_, [])])]
def bk_M_isBetter : List jx_B := [
  (0, [0, 1, 2], [(1, .aload_n 0, []), (1, .iconst 1, [0, 1]), (3, .invokevirtual 112, [0, 8, 37, 2, 1, 993]), (27, .tableswitch 60 0 2 #[27, 29, 31], [6, 1, 2, 3])]),
  (32, [], [(1, .iconst 0, [0, 0]), (1, .ireturn, [1])]),
  (34, [], [(1, .iconst 1, [0, 1]), (1, .ireturn, [1])]),
  (36, [0, 1, 2], [(1, .aload_n 0, []), (3, .getfield 7, [2, 8, 0, 851]), (1, .aload_n 0, []), (1, .iload_n 1, []), (3, .invokevirtual 161, [0, 8, 39, 2, 1, 1009]), (1, .iaload, [0]), (1, .aload_n 0, []), (3, .getfield 7, [2, 8, 0, 851]), (1, .aload_n 0, []), (1, .iload_n 2, []), (3, .invokevirtual 161, [0, 8, 39, 2, 1, 1009]), (1, .iaload, [0]), (3, .if_icmp .ge 7, [4]), (1, .iconst 1, [0, 1]), (3, .goto 4, [5])]),
  (63, [], [(1, .iconst 0, [0, 0]), (0, .nop, [5])]),
  (64, [], [(1, .ireturn, [1])]),
  (65, [0, 1, 2], [(1, .aload_n 0, []), (3, .getfield 7, [2, 8, 0, 851]), (1, .aload_n 0, []), (1, .iload_n 1, []), (3, .invokevirtual 161, [0, 8, 39, 2, 1, 1009]), (1, .iconst 1, [0, 1]), (1, .iadd, []), (1, .iaload, [0]), (1, .aload_n 0, []), (3, .getfield 7, [2, 8, 0, 851]), (1, .aload_n 0, []), (1, .iload_n 2, []), (3, .invokevirtual 161, [0, 8, 39, 2, 1, 1009]), (1, .iconst 1, [0, 1]), (1, .iadd, []), (1, .iaload, [0]), (3, .if_icmp .le 7, [7]), (1, .iconst 1, [0, 1]), (3, .goto 4, [8])]),
  (96, [], [(1, .iconst 0, [0, 0]), (0, .nop, [8])]),
  (97, [], [(1, .ireturn, [1])])]
def bk_M_isPossible : List jx_B := [
  (0, [0, 1], [(1, .iload_n 1, []), (2, .bipush 25, [0, 25]), (3, .if_icmp .ge 16, [1]), (1, .aload_n 0, []), (2, .bipush 7, [0, 7]), (3, .invokevirtual 112, [0, 8, 37, 2, 1, 993]), (1, .iload_n 1, []), (1, .ishr, []), (1, .iconst 1, [0, 1]), (1, .iand, []), (3, .goto 16, [2])]),
  (19, [0, 1], [(1, .aload_n 0, []), (2, .bipush 8, [0, 8]), (3, .invokevirtual 112, [0, 8, 37, 2, 1, 993]), (1, .iload_n 1, []), (2, .bipush 25, [0, 25]), (1, .isub, []), (1, .ishr, []), (1, .iconst 1, [0, 1]), (1, .iand, []), (0, .nop, [2])]),
  (32, [], [(1, .iconst 1, [0, 1]), (3, .if_icmp .ne 7, [3]), (1, .iconst 1, [0, 1]), (3, .goto 4, [4])]),
  (40, [], [(1, .iconst 0, [0, 0]), (0, .nop, [4])]),
  (41, [], [(1, .ireturn, [1])])]
def bk_M_isWord : List jx_B := [
  (0, [0], [(1, .iload_n 0, []), (1, .iconst 0, [0, 0]), (1, .iconst 5, [0, 5]), (3, .invokestatic 85, [0, 32, 3, 1, 907]), (1, .ireturn, [1])])]
def bk_M_laysPossible : List jx_B := [
  (0, [0, 1, 2], [(1, .aload_n 0, []), (2, .bipush 7, [0, 7]), (1, .iload_n 1, []), (3, .invokevirtual 115, [0, 8, 40, 3, 0, 989]), (1, .aload_n 0, []), (2, .bipush 8, [0, 8]), (1, .iload_n 2, []), (3, .invokevirtual 115, [0, 8, 40, 3, 0, 989]), (1, .return_, [])])]
def bk_M_longest : List jx_B := [
  (0, [0, 1, 2], [(1, .iload_n 2, []), (1, .iload_n 1, []), (3, .if_icmp .ge 7, [1]), (1, .iload_n 2, []), (3, .goto 4, [2])]),
  (9, [0, 1], [(1, .iload_n 1, []), (0, .nop, [2])]),
  (10, [0, 1], [(1, .istore_n 3, []), (0, .nop, [3])]),
  (11, [0, 1, 3], [(1, .iload_n 3, []), (3, .ifCond .le 29, [5]), (1, .aload_n 0, []), (1, .iload_n 1, []), (1, .iload_n 3, []), (1, .isub, []), (1, .iload_n 3, []), (3, .invokevirtual 61, [0, 8, 36, 3, 1, 843]), (2, .istore 4, []), (2, .iload 4, []), (2, .bipush (-9), [1, 9]), (3, .if_icmp .eq 6, [4]), (2, .iload 4, []), (1, .ireturn, [0])]),
  (35, [0, 1, 3], [(3, .iinc 3 (-1), [1, 1]), (3, .goto (-27), [3])]),
  (41, [], [(1, .iconst 0, [0, 0]), (1, .ireturn, [0])])]
def bk_M_next : List jx_B := [
  (0, [0, 1, 2], [(1, .iload_n 1, []), (1, .iconst 0, [0, 0]), (1, .aload_n 0, []), (3, .getfield 54, [0, 8, 4, 855]), (1, .iconst 1, [0, 1]), (1, .isub, []), (3, .invokestatic 85, [0, 32, 3, 1, 907]), (3, .ifCond .eq 27, [1]), (1, .iload_n 2, []), (1, .iconst 0, [0, 0]), (2, .bipush 25, [0, 25]), (3, .invokestatic 85, [0, 32, 3, 1, 907]), (3, .ifCond .eq 17, [1]), (1, .aload_n 0, []), (3, .getfield 31, [2, 8, 10, 861]), (2, .bipush 26, [0, 26]), (1, .iload_n 1, []), (1, .imul, []), (1, .iload_n 2, []), (1, .iadd, []), (1, .iaload, [0]), (3, .goto 4, [2])]),
  (38, [], [(1, .iconst (-1), [1, 1]), (0, .nop, [2])]),
  (39, [], [(1, .ireturn, [0])])]
def bk_M_node : List jx_B := [
  (0, [0, 1, 2], [(1, .iload_n 1, []), (1, .iconst 0, [0, 0]), (1, .aload_n 0, []), (3, .getfield 54, [0, 8, 4, 855]), (1, .iconst 1, [0, 1]), (1, .isub, []), (3, .invokestatic 85, [0, 32, 3, 1, 907]), (3, .ifCond .eq 12, [1]), (1, .iload_n 2, []), (1, .iconst 0, [0, 0]), (1, .iconst 4, [0, 4]), (3, .invokestatic 85, [0, 32, 3, 1, 907]), (3, .ifCond .ne 5, [2]), (0, .nop, [1])]),
  (23, [], [(1, .iconst (-1), [1, 1]), (1, .ireturn, [0])]),
  (25, [0, 1, 2], [(1, .iload_n 2, []), (30, .tableswitch 79 0 3 #[30, 37, 44, 72], [9, 3, 4, 5, 8])]),
  (56, [0, 1], [(1, .aload_n 0, []), (3, .getfield 16, [2, 8, 5, 856]), (1, .iload_n 1, []), (1, .iaload, [0]), (1, .ireturn, [0])]),
  (63, [0, 1], [(1, .aload_n 0, []), (3, .getfield 22, [2, 8, 7, 858]), (1, .iload_n 1, []), (1, .iaload, [0]), (1, .ireturn, [0])]),
  (70, [0, 1], [(1, .iload_n 1, []), (3, .ifCond .ne 8, [6]), (2, .bipush (-9), [1, 9]), (3, .goto 21, [7])]),
  (79, [0, 1], [(1, .aload_n 0, []), (3, .getfield 19, [2, 8, 6, 857]), (2, .bipush 8, [0, 8]), (1, .iload_n 1, []), (1, .imul, []), (1, .aload_n 0, []), (3, .getfield 16, [2, 8, 5, 856]), (1, .iload_n 1, []), (1, .iaload, [0]), (1, .iadd, []), (1, .iconst 1, [0, 1]), (1, .isub, []), (1, .iaload, [0]), (0, .nop, [7])]),
  (97, [], [(1, .ireturn, [0])]),
  (98, [0, 1], [(1, .aload_n 0, []), (3, .getfield 25, [2, 8, 8, 859]), (1, .iload_n 1, []), (1, .iaload, [0]), (1, .ireturn, [0])]),
  (105, [0, 1], [(1, .aload_n 0, []), (3, .getfield 28, [2, 8, 9, 860]), (1, .iload_n 1, []), (1, .iaload, [0]), (1, .ireturn, [0])])]
def bk_M_placeOf : List jx_B := [
  (0, [0, 1], [(1, .iconst 0, [0, 0]), (1, .istore_n 2, []), (0, .nop, [1])]),
  (2, [0, 1, 2], [(1, .iload_n 2, []), (1, .aload_n 0, []), (3, .getfield 7, [2, 8, 0, 851]), (2, .bipush 57, [0, 57]), (1, .iaload, [0]), (3, .if_icmp .ge 27, [3]), (1, .aload_n 0, []), (3, .getfield 7, [2, 8, 0, 851]), (1, .aload_n 0, []), (1, .iload_n 2, []), (3, .invokevirtual 92, [0, 8, 41, 2, 1, 937]), (1, .iconst 0, [0, 0]), (1, .iadd, []), (1, .iaload, [0]), (1, .iload_n 1, []), (3, .if_icmp .ne 5, [2]), (1, .iload_n 2, []), (1, .ireturn, [0])]),
  (31, [0, 1, 2], [(3, .iinc 2 1, [0, 1]), (3, .goto (-32), [1])]),
  (37, [], [(2, .bipush (-9), [1, 9]), (1, .ireturn, [0])])]
def bk_M_possibleNow : List jx_B := [
  (0, [0], [(1, .aload_n 0, []), (2, .bipush 7, [0, 7]), (3, .invokevirtual 112, [0, 8, 37, 2, 1, 993]), (1, .i2l, []), (1, .aload_n 0, []), (2, .bipush 8, [0, 8]), (3, .invokevirtual 112, [0, 8, 37, 2, 1, 993]), (1, .i2l, []), (2, .bipush 25, [0, 25]), (1, .lshl, []), (1, .ladd, []), (1, .lreturn, [])])]
def bk_M_readNow : List jx_B := [
  (0, [0, 1], [(1, .iload_n 1, []), (1, .aload_n 0, []), (2, .bipush 18, [0, 18]), (3, .invokevirtual 112, [0, 8, 37, 2, 1, 993]), (3, .if_icmp .ge 14, [1]), (1, .aload_n 0, []), (2, .bipush 22, [0, 22]), (1, .iload_n 1, []), (1, .iadd, []), (3, .invokevirtual 112, [0, 8, 37, 2, 1, 993]), (3, .goto 5, [2])]),
  (21, [], [(2, .bipush (-9), [1, 9]), (0, .nop, [2])]),
  (23, [], [(1, .ireturn, [0])])]
def bk_M_records : List jx_B := [
  (0, [0, 1, 2, 3], [(1, .aload_n 0, []), (3, .getfield 7, [2, 8, 0, 851]), (2, .bipush 62, [0, 62]), (1, .iaload, [0]), (2, .bipush 30, [0, 30]), (3, .if_icmp .ne 48, [3]), (2, .bipush 66, [0, 66]), (2, .istore 4, []), (0, .nop, [1])]),
  (16, [0, 1, 2, 3, 4], [(2, .iload 4, []), (3, .sipush 182, [0, 182]), (3, .if_icmp .ge 25, [2]), (1, .aload_n 0, []), (3, .getfield 7, [2, 8, 0, 851]), (2, .iload 4, []), (1, .aload_n 0, []), (3, .getfield 7, [2, 8, 0, 851]), (2, .iload 4, []), (1, .iconst 4, [0, 4]), (1, .iadd, []), (1, .iaload, [0]), (1, .iastore, []), (3, .iinc 4 1, [0, 1]), (3, .goto (-27), [1])]),
  (46, [0, 1, 2, 3], [(1, .aload_n 0, []), (3, .getfield 7, [2, 8, 0, 851]), (2, .bipush 62, [0, 62]), (1, .dup2, []), (1, .iaload, [0]), (1, .iconst 1, [0, 1]), (1, .isub, []), (1, .iastore, []), (0, .nop, [3])]),
  (57, [0, 1, 2, 3], [(2, .bipush 66, [0, 66]), (1, .iconst 4, [0, 4]), (1, .aload_n 0, []), (3, .getfield 7, [2, 8, 0, 851]), (2, .bipush 62, [0, 62]), (1, .iaload, [0]), (1, .imul, []), (1, .iadd, []), (2, .istore 4, []), (1, .aload_n 0, []), (3, .getfield 7, [2, 8, 0, 851]), (2, .iload 4, []), (1, .aload_n 0, []), (1, .iconst 0, [0, 0]), (3, .invokevirtual 112, [0, 8, 37, 2, 1, 993]), (1, .iastore, []), (1, .aload_n 0, []), (3, .getfield 7, [2, 8, 0, 851]), (2, .iload 4, []), (1, .iconst 1, [0, 1]), (1, .iadd, []), (1, .iload_n 1, []), (1, .iastore, []), (1, .aload_n 0, []), (3, .getfield 7, [2, 8, 0, 851]), (2, .iload 4, []), (1, .iconst 2, [0, 2]), (1, .iadd, []), (1, .iload_n 2, []), (1, .iastore, []), (1, .aload_n 0, []), (3, .getfield 7, [2, 8, 0, 851]), (2, .iload 4, []), (1, .iconst 3, [0, 3]), (1, .iadd, []), (1, .iload_n 3, []), (1, .iastore, []), (1, .aload_n 0, []), (3, .getfield 7, [2, 8, 0, 851]), (2, .bipush 62, [0, 62]), (1, .dup2, []), (1, .iaload, [0]), (1, .iconst 1, [0, 1]), (1, .iadd, []), (1, .iastore, []), (1, .aload_n 0, []), (1, .dup, []), (3, .getfield 118, [0, 8, 13, 864]), (1, .iconst 1, [0, 1]), (1, .iadd, []), (3, .putfield 118, [0, 8, 13, 864]), (1, .aload_n 0, []), (3, .getfield 7, [2, 8, 0, 851]), (1, .iload_n 2, []), (2, .bipush (-9), [1, 9]), (3, .if_icmp .ne 8, [4]), (2, .bipush 64, [0, 64]), (3, .goto 5, [5])]),
  (149, [0, 1, 2], [(2, .bipush 63, [0, 63]), (0, .nop, [5])]),
  (151, [0, 1, 2], [(1, .dup2, []), (1, .iaload, [0]), (1, .iconst 1, [0, 1]), (1, .iadd, []), (1, .iastore, []), (1, .aload_n 0, []), (1, .iload_n 2, []), (2, .bipush (-9), [1, 9]), (3, .if_icmp .ne 8, [6]), (2, .bipush 20, [0, 20]), (3, .goto 5, [7])]),
  (168, [0, 1, 2], [(2, .bipush 19, [0, 19]), (0, .nop, [7])]),
  (170, [0, 1, 2], [(1, .iconst 1, [0, 1]), (3, .invokevirtual 121, [0, 8, 27, 3, 0, 997]), (1, .aload_n 0, []), (1, .dup, []), (3, .getfield 124, [0, 8, 14, 865]), (1, .iload_n 2, []), (2, .bipush (-9), [1, 9]), (3, .if_icmp .ne 7, [8]), (1, .iconst 0, [0, 0]), (3, .goto 6, [9])]),
  (189, [1], [(1, .iconst 1, [0, 1]), (1, .iload_n 1, []), (1, .ishl, []), (0, .nop, [9])]),
  (192, [], [(1, .ior, []), (3, .putfield 124, [0, 8, 14, 865]), (1, .return_, [])])]
def bk_M_starts : List jx_B := [
  (0, [0, 1, 2, 3, 4], [(1, .iconst 0, [0, 0]), (2, .istore 5, []), (0, .nop, [1])]),
  (3, [0, 1, 2, 3, 4, 5], [(2, .iload 5, []), (3, .sipush 710, [0, 710]), (3, .if_icmp .ge 22, [2]), (1, .aload_n 0, []), (3, .getfield 7, [2, 8, 0, 851]), (1, .aload_n 0, []), (3, .getfield 109, [0, 8, 12, 863]), (2, .iload 5, []), (1, .iadd, []), (1, .iconst 0, [0, 0]), (1, .iastore, []), (3, .iinc 5 1, [0, 1]), (3, .goto (-24), [1])]),
  (30, [0, 1, 2, 3, 4], [(1, .aload_n 0, []), (1, .iconst 0, [0, 0]), (1, .iload_n 1, []), (3, .invokevirtual 115, [0, 8, 40, 3, 0, 989]), (1, .aload_n 0, []), (1, .iconst 1, [0, 1]), (1, .iload_n 2, []), (3, .invokevirtual 115, [0, 8, 40, 3, 0, 989]), (1, .aload_n 0, []), (1, .iconst 2, [0, 2]), (1, .iload_n 3, []), (3, .invokevirtual 115, [0, 8, 40, 3, 0, 989]), (1, .aload_n 0, []), (1, .iconst 3, [0, 3]), (2, .iload 4, []), (3, .invokevirtual 115, [0, 8, 40, 3, 0, 989]), (1, .aload_n 0, []), (2, .bipush 7, [0, 7]), (1, .iconst 1, [0, 1]), (3, .invokevirtual 115, [0, 8, 40, 3, 0, 989]), (1, .return_, [])])]
def bk_M_type : List jx_B := [
  (0, [0, 1], [(1, .iload_n 1, []), (2, .bipush 32, [0, 32]), (2, .bipush 126, [0, 126]), (3, .invokestatic 85, [0, 32, 3, 1, 907]), (3, .ifCond .ne 5, [1]), (1, .iconst (-1), [1, 1]), (1, .ireturn, [0])]),
  (13, [0, 1], [(1, .aload_n 0, []), (3, .getfield 89, [0, 8, 3, 854]), (2, .bipush 40, [0, 40]), (3, .if_icmp .ne 6, [2]), (2, .bipush (-3), [1, 3]), (1, .ireturn, [0])]),
  (25, [0, 1], [(1, .aload_n 0, []), (3, .getfield 13, [2, 8, 2, 853]), (1, .aload_n 0, []), (3, .getfield 89, [0, 8, 3, 854]), (1, .iload_n 1, []), (1, .iastore, []), (1, .aload_n 0, []), (1, .dup, []), (3, .getfield 89, [0, 8, 3, 854]), (1, .iconst 1, [0, 1]), (1, .iadd, []), (3, .putfield 89, [0, 8, 3, 854]), (1, .aload_n 0, []), (3, .getfield 89, [0, 8, 3, 854]), (1, .ireturn, [0])])]
def bk_T_told : List jx_B := [
  (0, [0, 1], [(1, .iload_n 1, []), (63, .tableswitch 171 0 11 #[63, 74, 82, 92, 102, 112, 120, 131, 142, 153, 161, 166], [13, 1, 2, 3, 4, 5, 6, 7, 8, 9, 10, 11, 12])]),
  (64, [0], [(1, .aload_n 0, []), (3, .getfield 32, [2, 7, 3, 359]), (3, .getfield 64, [2, 5, 0, 329]), (3, .invokevirtual 182, [0, 6, 74, 1, 1, 759]), (1, .ireturn, [0])]),
  (75, [0], [(1, .aload_n 0, []), (3, .getfield 20, [2, 7, 2, 358]), (3, .getfield 77, [0, 0, 0, 104]), (1, .ireturn, [0])]),
  (83, [0], [(1, .aload_n 0, []), (3, .getfield 32, [2, 7, 3, 359]), (3, .getfield 119, [2, 5, 1, 331]), (1, .iconst 0, [0, 0]), (1, .iaload, [0]), (1, .ireturn, [0])]),
  (93, [0], [(1, .aload_n 0, []), (3, .getfield 32, [2, 7, 3, 359]), (3, .getfield 119, [2, 5, 1, 331]), (1, .iconst 1, [0, 1]), (1, .iaload, [0]), (1, .ireturn, [0])]),
  (103, [0], [(1, .aload_n 0, []), (3, .getfield 32, [2, 7, 3, 359]), (3, .getfield 119, [2, 5, 1, 331]), (1, .iconst 2, [0, 2]), (1, .iaload, [0]), (1, .ireturn, [0])]),
  (113, [0], [(1, .aload_n 0, []), (3, .getfield 32, [2, 7, 3, 359]), (3, .getfield 151, [0, 5, 4, 337]), (1, .ireturn, [0])]),
  (121, [0], [(1, .aload_n 0, []), (3, .getfield 32, [2, 7, 3, 359]), (3, .getfield 136, [2, 5, 2, 333]), (3, .invokevirtual 185, [0, 1, 60, 1, 1, 764]), (1, .ireturn, [0])]),
  (132, [0], [(1, .aload_n 0, []), (3, .getfield 32, [2, 7, 3, 359]), (3, .getfield 136, [2, 5, 2, 333]), (3, .getfield 188, [0, 1, 0, 150]), (1, .ireturn, [0])]),
  (143, [0], [(1, .aload_n 0, []), (3, .getfield 32, [2, 7, 3, 359]), (3, .getfield 136, [2, 5, 2, 333]), (3, .getfield 191, [0, 1, 1, 152]), (1, .ireturn, [0])]),
  (154, [0], [(1, .aload_n 0, []), (3, .getfield 32, [2, 7, 3, 359]), (3, .getfield 194, [0, 5, 5, 339]), (1, .ireturn, [0])]),
  (162, [0], [(1, .aload_n 0, []), (3, .getfield 50, [0, 7, 7, 363]), (1, .ireturn, [0])]),
  (167, [0], [(1, .aload_n 0, []), (3, .getfield 13, [0, 7, 1, 357]), (1, .ireturn, [0])]),
  (172, [], [(1, .iconst (-1), [1, 1]), (1, .ireturn, [0])])]
def bk_A_addChildren : List jx_B := [
  (0, [0, 1, 2, 3], [(1, .iconst 0, [0, 0]), (2, .istore 4, []), (0, .nop, [1])]),
  (3, [0, 1, 2, 3, 4], [(2, .iload 4, []), (2, .bipush 26, [0, 26]), (3, .if_icmp .ge 106, [7]), (1, .iconst (-1), [1, 1]), (2, .istore 5, []), (1, .iconst 0, [0, 0]), (2, .istore 6, []), (0, .nop, [2])]),
  (16, [0, 1, 2, 3, 4, 5, 6], [(2, .iload 6, []), (2, .bipush 6, [0, 6]), (3, .if_icmp .ge 87, [6]), (1, .aload_n 0, []), (3, .getfield 37, [2, 0, 8, 119]), (2, .iload 6, []), (1, .iaload, [0]), (1, .iload_n 2, []), (3, .if_icmp .ne 70, [5]), (1, .aload_n 1, []), (2, .iload 6, []), (1, .iload_n 3, []), (1, .iconst 1, [0, 1]), (1, .isub, []), (3, .invokevirtual 57, [0, 6, 25, 3, 1, 476]), (2, .iload 4, []), (3, .if_icmp .eq 6, [3]), (3, .goto 53, [5])]),
  (51, [0, 1, 2, 3, 4, 5, 6], [(2, .iload 5, []), (1, .iconst (-1), [1, 1]), (3, .if_icmp .ne 13, [4]), (1, .aload_n 0, []), (1, .iload_n 2, []), (2, .iload 4, []), (1, .iload_n 3, []), (3, .invokevirtual 61, [0, 0, 55, 4, 1, 480]), (2, .istore 5, []), (0, .nop, [4])]),
  (67, [0, 1, 2, 3, 4, 5, 6], [(1, .aload_n 0, []), (3, .getfield 37, [2, 0, 8, 119]), (2, .iload 6, []), (2, .iload 5, []), (1, .iastore, []), (1, .aload_n 0, []), (3, .getfield 31, [2, 0, 6, 116]), (2, .iload 6, []), (1, .iaload, [0]), (1, .iload_n 3, []), (3, .if_icmp .ne 17, [5]), (1, .aload_n 0, []), (3, .getfield 28, [2, 0, 5, 113]), (2, .iload 5, []), (1, .dup2, []), (1, .iaload, [0]), (1, .iconst 1, [0, 1]), (2, .iload 6, []), (1, .ishl, []), (1, .ior, []), (1, .iastore, []), (0, .nop, [5])]),
  (101, [0, 1, 2, 3, 4, 5, 6], [(3, .iinc 6 1, [0, 1]), (3, .goto (-88), [2])]),
  (107, [0, 1, 2, 3, 4], [(3, .iinc 4 1, [0, 1]), (3, .goto (-107), [1])]),
  (113, [], [(1, .return_, [])])]
def bk_A_fewestLettersToWord : List jx_B := [
  (0, [0, 1], [(1, .lconst 1, []), (1, .iload_n 1, []), (1, .lshl, []), (1, .lstore_n 2, []), (1, .iconst 1, [0, 1]), (2, .istore 4, []), (0, .nop, [1])]),
  (7, [0, 2, 4], [(2, .iload 4, []), (2, .bipush 8, [0, 8]), (3, .if_icmp .gt 26, [3]), (1, .aload_n 0, []), (1, .lload_n 2, []), (3, .invokevirtual 77, [0, 0, 57, 2, 2, 686]), (1, .lstore_n 2, []), (1, .aload_n 0, []), (1, .lload_n 2, []), (3, .invokevirtual 81, [0, 0, 11, 2, 1, 790]), (3, .ifCond .eq 6, [2]), (2, .iload 4, []), (1, .ireturn, [0])]),
  (31, [0, 2, 4], [(3, .iinc 4 1, [0, 1]), (3, .goto (-27), [1])]),
  (37, [], [(2, .bipush (-9), [1, 9]), (1, .ireturn, [0])])]
def bk_A_spread : List jx_B := [
  (0, [0, 1, 3], [(1, .lload_n 1, []), (2, .lstore 4, []), (1, .iconst 0, [0, 0]), (2, .istore 6, []), (0, .nop, [1])]),
  (6, [0, 3, 4, 6], [(2, .iload 6, []), (1, .iload_n 3, []), (3, .if_icmp .ge 37, [3]), (2, .lload 4, []), (1, .aload_n 0, []), (2, .lload 4, []), (3, .invokevirtual 77, [0, 0, 57, 2, 2, 686]), (1, .lor, []), (1, .lconst 1, []), (1, .lor, []), (2, .lstore 7, []), (2, .lload 7, []), (2, .lload 4, []), (1, .lcmp, []), (3, .ifCond .ne 6, [2]), (3, .goto 13, [3])]),
  (36, [0, 3, 6, 7], [(2, .lload 7, []), (2, .lstore 4, []), (3, .iinc 6 1, [0, 1]), (3, .goto (-37), [1])]),
  (46, [4], [(2, .lload 4, []), (1, .lreturn, [])])]
def bk_Fi_tell : List jx_B := [
  (0, [0, 1, 2], [(1, .iload_n 1, []), (1, .aload_n 0, []), (3, .invokevirtual 47, [0, 1, 60, 1, 1, 749]), (3, .if_icmp .lt 6, [1]), (2, .bipush (-9), [1, 9]), (1, .ireturn, [0])]),
  (11, [0, 1, 2], [(1, .aload_n 0, []), (3, .invokevirtual 37, [0, 1, 13, 1, 1, 753]), (1, .iconst 1, [0, 1]), (1, .isub, []), (1, .iload_n 1, []), (1, .isub, []), (2, .bipush 30, [0, 30]), (1, .irem, []), (1, .istore_n 3, []), (1, .iload_n 2, []), (28, .tableswitch 49 0 2 #[28, 35, 42], [5, 2, 3, 4])]),
  (52, [0, 3], [(1, .aload_n 0, []), (3, .getfield 18, [2, 1, 2, 153]), (1, .iload_n 3, []), (1, .iaload, [0]), (1, .ireturn, [0])]),
  (59, [0, 3], [(1, .aload_n 0, []), (3, .getfield 22, [2, 1, 3, 154]), (1, .iload_n 3, []), (1, .iaload, [0]), (1, .ireturn, [0])]),
  (66, [0, 3], [(1, .aload_n 0, []), (3, .getfield 25, [2, 1, 4, 155]), (1, .iload_n 3, []), (1, .iaload, [0]), (1, .ireturn, [0])]),
  (73, [0, 3], [(1, .aload_n 0, []), (3, .getfield 28, [2, 1, 5, 156]), (1, .iload_n 3, []), (1, .iaload, [0]), (1, .ireturn, [0])])]
def bk_Fl_init : List jx_B := [
  (0, [0, 1, 2], [(1, .aload_n 0, []), (3, .invokespecial 3, [2, 194, 95, 96]), (1, .aload_n 0, []), (3, .new 9, [4, 195, 196, 81]), (1, .dup, []), (2, .bipush 6, [0, 6]), (3, .invokespecial 11, [0, 66, 2, 197]), (3, .putfield 14, [2, 2, 4, 292]), (1, .aload_n 0, []), (3, .new 9, [4, 195, 196, 81]), (1, .dup, []), (2, .bipush 10, [0, 10]), (3, .invokespecial 11, [0, 66, 2, 197]), (3, .putfield 20, [2, 2, 5, 294]), (1, .aload_n 0, []), (3, .new 23, [3, 221, 222, 82]), (1, .dup, []), (1, .aload_n 1, []), (1, .aload_n 2, []), (3, .invokespecial 25, [0, 62, 3, 223]), (3, .putfield 28, [2, 2, 6, 296]), (1, .return_, [])])]
def bk_Fl_begin : List jx_B := [
  (0, [0, 1, 2, 3, 4], [(1, .aload_n 0, []), (1, .iload_n 1, []), (3, .putfield 32, [0, 2, 0, 284]), (1, .aload_n 0, []), (1, .iload_n 2, []), (3, .putfield 36, [0, 2, 1, 287]), (1, .aload_n 0, []), (2, .iload 4, []), (3, .putfield 39, [0, 2, 2, 288]), (1, .aload_n 0, []), (1, .iconst 0, [0, 0]), (3, .putfield 42, [0, 2, 3, 290]), (1, .aload_n 0, []), (3, .getfield 14, [2, 2, 4, 292]), (1, .iconst 0, [0, 0]), (3, .putfield 45, [0, 4, 0, 202]), (1, .aload_n 0, []), (3, .getfield 20, [2, 2, 5, 294]), (1, .iconst 0, [0, 0]), (3, .putfield 45, [0, 4, 0, 202]), (1, .aload_n 0, []), (3, .getfield 28, [2, 2, 6, 296]), (1, .iload_n 1, []), (1, .iload_n 3, []), (3, .invokevirtual 48, [0, 3, 63, 3, 0, 576]), (1, .aload_n 0, []), (1, .iconst 0, [0, 0]), (3, .putfield 52, [0, 2, 7, 298]), (1, .aload_n 0, []), (1, .iconst 0, [0, 0]), (3, .putfield 55, [0, 2, 8, 299]), (1, .aload_n 0, []), (1, .iconst 0, [0, 0]), (3, .putfield 58, [0, 2, 9, 300]), (1, .aload_n 0, []), (1, .iconst 0, [0, 0]), (3, .putfield 61, [0, 2, 10, 301]), (1, .aload_n 0, []), (1, .iconst 0, [0, 0]), (3, .putfield 64, [0, 2, 11, 302]), (1, .return_, [])])]
def bk_Fl_chosenByte : List jx_B := [
  (0, [0, 1], [(1, .iload_n 1, []), (1, .aload_n 0, []), (3, .getfield 42, [0, 2, 3, 290]), (3, .if_icmp .ge 6, [1]), (2, .bipush (-9), [1, 9]), (1, .ireturn, [0])]),
  (11, [0, 1], [(1, .aload_n 0, []), (3, .getfield 14, [2, 2, 4, 292]), (1, .aload_n 0, []), (1, .iload_n 1, []), (3, .invokevirtual 91, [0, 2, 61, 2, 1, 590]), (1, .iload_n 1, []), (3, .invokevirtual 94, [0, 4, 67, 3, 1, 602]), (1, .ireturn, [0])])]
def bk_Fl_isDisputed : List jx_B := [
  (0, [0, 1, 2], [(1, .iconst 0, [0, 0]), (1, .istore_n 3, []), (0, .nop, [1])]),
  (2, [0, 1, 2, 3], [(1, .iload_n 3, []), (1, .aload_n 0, []), (3, .getfield 14, [2, 2, 4, 292]), (3, .getfield 45, [0, 4, 0, 202]), (3, .if_icmp .ge 35, [3]), (1, .aload_n 0, []), (3, .getfield 14, [2, 2, 4, 292]), (1, .iload_n 3, []), (1, .iload_n 1, []), (3, .invokevirtual 94, [0, 4, 67, 3, 1, 602]), (2, .istore 4, []), (2, .iload 4, []), (2, .bipush (-9), [1, 9]), (3, .if_icmp .eq 11, [2]), (2, .iload 4, []), (1, .iload_n 2, []), (3, .if_icmp .eq 5, [2]), (1, .iconst 1, [0, 1]), (1, .ireturn, [1])]),
  (39, [0, 1, 2, 3], [(3, .iinc 3 1, [0, 1]), (3, .goto (-40), [1])]),
  (45, [], [(1, .iconst 0, [0, 0]), (1, .ireturn, [1])])]
def bk_R_release : List jx_B := [
  (0, [0, 1], [(1, .aload_n 0, []), (3, .getfield 33, [0, 3, 4, 233]), (1, .istore_n 2, []), (1, .aload_n 0, []), (1, .iconst 0, [0, 0]), (3, .putfield 33, [0, 3, 4, 233]), (1, .iload_n 2, []), (3, .ifCond .le 17, [1]), (1, .aload_n 0, []), (2, .bipush 37, [0, 37]), (1, .iload_n 1, []), (1, .iload_n 2, []), (1, .isub, []), (1, .iload_n 1, []), (1, .iload_n 2, []), (1, .isub, []), (1, .iconst 1, [0, 1]), (1, .iadd, []), (3, .invokevirtual 71, [0, 3, 64, 4, 0, 615]), (0, .nop, [1])]),
  (28, [0, 1, 2], [(1, .iload_n 2, []), (1, .iconst 1, [0, 1]), (3, .if_icmp .le 15, [2]), (1, .aload_n 0, []), (1, .aload_n 0, []), (3, .getfield 62, [0, 3, 5, 235]), (1, .iload_n 1, []), (1, .iconst 1, [0, 1]), (1, .isub, []), (1, .iload_n 1, []), (3, .invokevirtual 71, [0, 3, 64, 4, 0, 615]), (0, .nop, [2])]),
  (45, [], [(1, .return_, [])])]
def bk_Sg_add : List jx_B := [
  (0, [0, 1, 2, 3, 4], [(1, .aload_n 0, []), (3, .invokevirtual 30, [0, 4, 21, 1, 1, 440]), (3, .ifCond .ne 25, [1]), (1, .iload_n 3, []), (3, .ifCond .lt 21, [1]), (1, .iload_n 3, []), (2, .bipush 40, [0, 40]), (3, .if_icmp .gt 15, [1]), (1, .iload_n 2, []), (3, .ifCond .lt 11, [1]), (1, .iload_n 2, []), (1, .aload_n 1, []), (1, .arraylength, [2]), (1, .iload_n 3, []), (1, .isub, []), (3, .if_icmp .le 4, [2]), (0, .nop, [1])]),
  (29, [], [(1, .return_, [])]),
  (30, [0, 1, 2, 3, 4], [(1, .aload_n 0, []), (1, .aload_n 0, []), (3, .getfield 9, [0, 4, 0, 201]), (1, .aload_n 1, []), (1, .iload_n 2, []), (1, .iload_n 3, []), (2, .iload 4, []), (3, .invokevirtual 34, [0, 4, 69, 6, 0, 444]), (1, .aload_n 0, []), (1, .dup, []), (3, .getfield 9, [0, 4, 0, 201]), (1, .iconst 1, [0, 1]), (1, .iadd, []), (3, .putfield 9, [0, 4, 0, 201]), (1, .return_, [])])]
def bk_Sg_coveredFrom : List jx_B := [
  (0, [0, 1], [(1, .iconst 0, [0, 0]), (1, .istore_n 2, []), (1, .iconst 0, [0, 0]), (1, .istore_n 3, []), (0, .nop, [1])]),
  (4, [0, 1, 2, 3], [(1, .iload_n 3, []), (1, .aload_n 0, []), (3, .getfield 9, [0, 4, 0, 201]), (3, .if_icmp .ge 62, [5]), (1, .aload_n 0, []), (3, .getfield 15, [2, 4, 1, 204]), (1, .iload_n 3, []), (1, .iaload, [0]), (1, .aload_n 0, []), (3, .getfield 19, [2, 4, 2, 207]), (1, .iload_n 3, []), (1, .iaload, [0]), (1, .iadd, []), (2, .istore 4, []), (1, .iload_n 1, []), (1, .aload_n 0, []), (3, .getfield 15, [2, 4, 1, 204]), (1, .iload_n 3, []), (1, .iaload, [0]), (3, .invokestatic 48, [5, 662, 663, 85, 664]), (2, .istore 5, []), (0, .nop, [2])]),
  (39, [0, 1, 2, 3, 4, 5], [(2, .iload 5, []), (2, .iload 4, []), (3, .if_icmp .ge 22, [4]), (1, .aload_n 0, []), (1, .iload_n 3, []), (2, .iload 5, []), (3, .invokevirtual 54, [0, 4, 68, 3, 1, 665]), (3, .ifCond .ne 6, [3]), (3, .iinc 2 1, [0, 1]), (0, .nop, [3])]),
  (59, [0, 1, 2, 3, 4, 5], [(3, .iinc 5 1, [0, 1]), (3, .goto (-23), [2])]),
  (65, [0, 1, 2, 3], [(3, .iinc 3 1, [0, 1]), (3, .goto (-64), [1])]),
  (71, [2], [(1, .iload_n 2, []), (1, .ireturn, [0])])]
def bk_Sg_dropBefore : List jx_B := [
  (0, [0, 1], [(1, .iconst 0, [0, 0]), (1, .istore_n 2, []), (1, .iconst 0, [0, 0]), (1, .istore_n 3, []), (0, .nop, [1])]),
  (4, [0, 1, 2, 3], [(1, .iload_n 3, []), (1, .aload_n 0, []), (3, .getfield 9, [0, 4, 0, 201]), (3, .if_icmp .ge 62, [5]), (1, .aload_n 0, []), (3, .getfield 15, [2, 4, 1, 204]), (1, .iload_n 3, []), (1, .iaload, [0]), (1, .aload_n 0, []), (3, .getfield 19, [2, 4, 2, 207]), (1, .iload_n 3, []), (1, .iaload, [0]), (1, .iadd, []), (1, .iload_n 1, []), (3, .if_icmp .gt 6, [2]), (3, .goto 36, [4])]),
  (32, [0, 1, 2, 3], [(1, .iload_n 2, []), (1, .iload_n 3, []), (3, .if_icmp .ge 28, [3]), (1, .aload_n 0, []), (1, .iload_n 2, []), (1, .aload_n 0, []), (3, .getfield 22, [2, 4, 3, 210]), (1, .iload_n 3, []), (2, .bipush 40, [0, 40]), (1, .imul, []), (1, .aload_n 0, []), (3, .getfield 19, [2, 4, 2, 207]), (1, .iload_n 3, []), (1, .iaload, [0]), (1, .aload_n 0, []), (3, .getfield 15, [2, 4, 1, 204]), (1, .iload_n 3, []), (1, .iaload, [0]), (3, .invokevirtual 34, [0, 4, 69, 6, 0, 444]), (0, .nop, [3])]),
  (62, [0, 1, 2, 3], [(3, .iinc 2 1, [0, 1]), (0, .nop, [4])]),
  (65, [0, 1, 2, 3], [(3, .iinc 3 1, [0, 1]), (3, .goto (-64), [1])]),
  (71, [0, 2], [(1, .aload_n 0, []), (1, .iload_n 2, []), (3, .putfield 9, [0, 4, 0, 201]), (1, .return_, [])])]
def bk_M_asked : List jx_B := [
  (0, [0, 1], [(1, .aload_n 0, []), (1, .iload_n 1, []), (3, .invokevirtual 195, [0, 8, 95, 2, 1, 969]), (1, .istore_n 2, []), (1, .iload_n 1, []), (1, .iconst 0, [0, 0]), (2, .bipush 99, [0, 99]), (3, .invokestatic 85, [0, 32, 3, 1, 907]), (3, .ifCond .ne 7, [1]), (1, .iconst (-1), [1, 1]), (3, .goto 15, [3])]),
  (20, [2], [(1, .iload_n 2, []), (2, .bipush (-9), [1, 9]), (3, .if_icmp .ne 8, [2]), (2, .bipush (-2), [1, 2]), (3, .goto 4, [3])]),
  (31, [2], [(1, .iload_n 2, []), (0, .nop, [3])]),
  (32, [], [(1, .ireturn, [0])])]
def bk_M_chosen : List jx_B := [
  (0, [0, 1], [(2, .bipush (-9), [1, 9]), (1, .istore_n 2, []), (1, .iconst 0, [0, 0]), (1, .istore_n 3, []), (0, .nop, [1])]),
  (5, [0, 1, 2, 3], [(1, .iload_n 3, []), (1, .aload_n 0, []), (1, .iconst 5, [0, 5]), (3, .invokevirtual 112, [0, 8, 37, 2, 1, 993]), (3, .if_icmp .ge 35, [4]), (1, .aload_n 0, []), (1, .iload_n 3, []), (1, .iload_n 1, []), (3, .invokevirtual 164, [0, 8, 78, 3, 1, 1021]), (3, .ifCond .eq 20, [3]), (1, .iload_n 2, []), (2, .bipush (-9), [1, 9]), (3, .if_icmp .eq 12, [2]), (1, .aload_n 0, []), (1, .iload_n 3, []), (1, .iload_n 2, []), (3, .invokevirtual 167, [0, 8, 88, 3, 1, 1025]), (3, .ifCond .eq 5, [3]), (0, .nop, [2])]),
  (38, [0, 1, 3], [(1, .iload_n 3, []), (1, .istore_n 2, []), (0, .nop, [3])]),
  (40, [0, 1, 2, 3], [(3, .iinc 3 1, [0, 1]), (3, .goto (-38), [1])]),
  (46, [2], [(1, .iload_n 2, []), (1, .ireturn, [0])])]
def bk_M_isConflict : List jx_B := [
  (0, [0, 1], [(2, .bipush (-9), [1, 9]), (1, .istore_n 2, []), (1, .iconst 0, [0, 0]), (1, .istore_n 3, []), (1, .iconst 0, [0, 0]), (2, .istore 4, []), (0, .nop, [1])]),
  (8, [0, 1, 2, 3, 4], [(2, .iload 4, []), (1, .aload_n 0, []), (1, .iconst 5, [0, 5]), (3, .invokevirtual 112, [0, 8, 37, 2, 1, 993]), (3, .if_icmp .ge 54, [6]), (1, .aload_n 0, []), (2, .iload 4, []), (1, .iload_n 1, []), (3, .invokevirtual 164, [0, 8, 78, 3, 1, 1021]), (3, .ifCond .eq 38, [5]), (1, .iload_n 3, []), (3, .ifCond .ne 25, [2]), (1, .iload_n 2, []), (2, .bipush (-9), [1, 9]), (3, .if_icmp .eq 23, [3]), (1, .aload_n 0, []), (2, .iload 4, []), (1, .iload_n 1, []), (3, .invokevirtual 170, [0, 8, 77, 3, 1, 1029]), (1, .aload_n 0, []), (1, .iload_n 2, []), (1, .iload_n 1, []), (3, .invokevirtual 170, [0, 8, 77, 3, 1, 1029]), (3, .if_icmp .eq 7, [3]), (0, .nop, [2])]),
  (54, [0, 1, 4], [(1, .iconst 1, [0, 1]), (3, .goto 4, [4])]),
  (58, [0, 1, 4], [(1, .iconst 0, [0, 0]), (0, .nop, [4])]),
  (59, [0, 1, 4], [(1, .istore_n 3, []), (2, .iload 4, []), (1, .istore_n 2, []), (0, .nop, [5])]),
  (63, [0, 1, 2, 3, 4], [(3, .iinc 4 1, [0, 1]), (3, .goto (-58), [1])]),
  (69, [3], [(1, .iload_n 3, []), (1, .ireturn, [1])])]
def bk_M_lays : List jx_B := [
  (0, [0], [(1, .aload_n 0, []), (1, .iconst 1, [0, 1]), (3, .putfield 54, [0, 8, 4, 855]), (1, .aload_n 0, []), (3, .getfield 16, [2, 8, 5, 856]), (1, .iconst 0, [0, 0]), (1, .iconst 0, [0, 0]), (1, .iastore, []), (1, .iconst 0, [0, 0]), (1, .istore_n 1, []), (0, .nop, [1])]),
  (14, [0, 1], [(1, .iload_n 1, []), (2, .bipush 6, [0, 6]), (3, .if_icmp .ge 56, [6]), (1, .iconst 1, [0, 1]), (1, .istore_n 2, []), (0, .nop, [2])]),
  (22, [0, 1, 2], [(1, .iload_n 2, []), (1, .aload_n 0, []), (1, .iload_n 1, []), (3, .invokevirtual 64, [0, 8, 43, 2, 1, 819]), (3, .if_icmp .gt 39, [5]), (1, .iconst 0, [0, 0]), (1, .istore_n 3, []), (0, .nop, [3])]),
  (33, [0, 1, 2, 3], [(1, .iload_n 3, []), (1, .iload_n 2, []), (3, .if_icmp .ge 21, [4]), (1, .aload_n 0, []), (3, .getfield 34, [2, 8, 11, 862]), (1, .iload_n 3, []), (1, .aload_n 0, []), (1, .iload_n 1, []), (1, .iload_n 3, []), (3, .invokevirtual 68, [0, 8, 34, 3, 1, 823]), (1, .iastore, []), (3, .iinc 3 1, [0, 1]), (3, .goto (-20), [3])]),
  (56, [0, 1, 2], [(1, .aload_n 0, []), (1, .iload_n 2, []), (3, .invokevirtual 71, [0, 8, 87, 2, 0, 827]), (3, .iinc 2 1, [0, 1]), (3, .goto (-42), [2])]),
  (67, [0, 1], [(3, .iinc 1 1, [0, 1]), (3, .goto (-56), [1])]),
  (73, [0], [(1, .iconst 0, [0, 0]), (1, .istore_n 1, []), (0, .nop, [7])]),
  (75, [0, 1], [(1, .iload_n 1, []), (1, .aload_n 0, []), (3, .getfield 54, [0, 8, 4, 855]), (3, .if_icmp .ge 172, [18]), (1, .aload_n 0, []), (3, .getfield 28, [2, 8, 9, 860]), (1, .iload_n 1, []), (1, .iconst 0, [0, 0]), (1, .iastore, []), (1, .iconst 0, [0, 0]), (1, .istore_n 2, []), (0, .nop, [8])]),
  (92, [0, 1, 2], [(1, .iload_n 2, []), (2, .bipush 6, [0, 6]), (3, .if_icmp .ge 34, [11]), (1, .aload_n 0, []), (3, .getfield 28, [2, 8, 9, 860]), (1, .iload_n 1, []), (1, .dup2, []), (1, .iaload, [0]), (1, .aload_n 0, []), (1, .iload_n 1, []), (1, .iload_n 2, []), (3, .invokevirtual 75, [0, 8, 81, 3, 1, 835]), (3, .ifCond .eq 9, [9]), (1, .iconst 1, [0, 1]), (1, .iload_n 2, []), (1, .ishl, []), (3, .goto 4, [10])]),
  (120, [0, 1, 2], [(1, .iconst 0, [0, 0]), (0, .nop, [10])]),
  (121, [0, 1, 2], [(1, .ior, []), (1, .iastore, []), (3, .iinc 2 1, [0, 1]), (3, .goto (-34), [8])]),
  (129, [0, 1], [(1, .aload_n 0, []), (1, .iload_n 1, []), (3, .invokevirtual 79, [0, 8, 42, 2, 0, 839]), (1, .aload_n 0, []), (3, .getfield 22, [2, 8, 7, 858]), (1, .iload_n 1, []), (1, .iload_n 1, []), (3, .ifCond .ne 8, [12]), (2, .bipush (-9), [1, 9]), (3, .goto 16, [13])]),
  (148, [0, 1], [(1, .aload_n 0, []), (1, .iconst 0, [0, 0]), (1, .aload_n 0, []), (3, .getfield 16, [2, 8, 5, 856]), (1, .iload_n 1, []), (1, .iaload, [0]), (1, .iconst 1, [0, 1]), (1, .isub, []), (3, .invokevirtual 61, [0, 8, 36, 3, 1, 843]), (0, .nop, [13])]),
  (161, [0, 1], [(1, .iastore, []), (1, .aload_n 0, []), (3, .getfield 25, [2, 8, 8, 859]), (1, .iload_n 1, []), (1, .iload_n 1, []), (3, .ifCond .ne 8, [14]), (2, .bipush (-9), [1, 9]), (3, .goto 21, [15])]),
  (176, [0, 1], [(1, .aload_n 0, []), (1, .aload_n 0, []), (3, .getfield 16, [2, 8, 5, 856]), (1, .iload_n 1, []), (1, .iaload, [0]), (1, .aload_n 0, []), (3, .getfield 16, [2, 8, 5, 856]), (1, .iload_n 1, []), (1, .iaload, [0]), (1, .iconst 1, [0, 1]), (1, .isub, []), (3, .invokevirtual 82, [0, 8, 92, 3, 1, 847]), (0, .nop, [15])]),
  (194, [0, 1], [(1, .iastore, []), (1, .iconst 0, [0, 0]), (1, .istore_n 2, []), (0, .nop, [16])]),
  (197, [0, 1, 2], [(1, .iload_n 2, []), (2, .bipush 26, [0, 26]), (3, .if_icmp .ge 46, [17]), (1, .aload_n 0, []), (3, .getfield 34, [2, 8, 11, 862]), (1, .aload_n 0, []), (3, .getfield 16, [2, 8, 5, 856]), (1, .iload_n 1, []), (1, .iaload, [0]), (1, .iload_n 2, []), (1, .iastore, []), (1, .aload_n 0, []), (3, .getfield 31, [2, 8, 10, 861]), (2, .bipush 26, [0, 26]), (1, .iload_n 1, []), (1, .imul, []), (1, .iload_n 2, []), (1, .iadd, []), (1, .aload_n 0, []), (1, .aload_n 0, []), (3, .getfield 16, [2, 8, 5, 856]), (1, .iload_n 1, []), (1, .iaload, [0]), (1, .iconst 1, [0, 1]), (1, .iadd, []), (2, .bipush 8, [0, 8]), (3, .invokevirtual 82, [0, 8, 92, 3, 1, 847]), (1, .iastore, []), (3, .iinc 2 1, [0, 1]), (3, .goto (-46), [16])]),
  (246, [0, 1], [(3, .iinc 1 1, [0, 1]), (3, .goto (-174), [7])]),
  (252, [], [(1, .return_, [])])]
def bk_M_letter : List jx_B := [
  (0, [0, 1, 2], [(1, .iload_n 1, []), (3, .invokestatic 95, [0, 90, 1, 1, 918]), (3, .ifCond .eq 7, [1]), (1, .iload_n 2, []), (3, .ifCond .ge 5, [2]), (0, .nop, [1])]),
  (11, [], [(1, .iconst (-1), [1, 1]), (1, .ireturn, [0])]),
  (13, [0, 1, 2], [(1, .aload_n 0, []), (1, .iload_n 1, []), (3, .invokevirtual 64, [0, 8, 43, 2, 1, 819]), (3, .ifCond .ne 8, [3]), (2, .bipush (-2), [1, 2]), (3, .goto 23, [5])]),
  (26, [0, 1, 2], [(1, .iload_n 2, []), (1, .aload_n 0, []), (1, .iload_n 1, []), (3, .invokevirtual 64, [0, 8, 43, 2, 1, 819]), (3, .if_icmp .ge 12, [4]), (1, .aload_n 0, []), (1, .iload_n 1, []), (1, .iload_n 2, []), (3, .invokevirtual 68, [0, 8, 34, 3, 1, 823]), (3, .goto 5, [5])]),
  (44, [], [(2, .bipush (-9), [1, 9]), (0, .nop, [5])]),
  (46, [], [(1, .ireturn, [0])])]
def bk_M_possibleMany : List jx_B := [
  (0, [0], [(1, .iconst 0, [0, 0]), (1, .istore_n 1, []), (1, .iconst 0, [0, 0]), (1, .istore_n 2, []), (0, .nop, [1])]),
  (4, [0, 1, 2], [(1, .iload_n 2, []), (1, .aload_n 0, []), (3, .getfield 54, [0, 8, 4, 855]), (3, .if_icmp .ge 25, [4]), (1, .iload_n 1, []), (1, .aload_n 0, []), (1, .iload_n 2, []), (3, .invokevirtual 127, [0, 8, 89, 2, 1, 1060]), (3, .ifCond .eq 7, [2]), (1, .iconst 1, [0, 1]), (3, .goto 4, [3])]),
  (25, [0, 2], [(1, .iconst 0, [0, 0]), (0, .nop, [3])]),
  (26, [0, 2], [(1, .iadd, []), (1, .istore_n 1, []), (3, .iinc 2 1, [0, 1]), (3, .goto (-27), [1])]),
  (34, [1], [(1, .iload_n 1, []), (1, .ireturn, [0])])]
def bk_M_set : List jx_B := [
  (0, [0, 1, 2], [(1, .iload_n 1, []), (1, .iconst 0, [0, 0]), (1, .iconst 2, [0, 2]), (3, .invokestatic 85, [0, 32, 3, 1, 907]), (3, .ifCond .eq 40, [6]), (1, .iload_n 2, []), (1, .iload_n 1, []), (1, .iconst 2, [0, 2]), (3, .if_icmp .ne 7, [1]), (1, .iconst 1, [0, 1]), (3, .goto 4, [2])]),
  (19, [0, 1, 2], [(1, .iconst 0, [0, 0]), (0, .nop, [2])]),
  (20, [0, 1, 2], [(1, .iload_n 1, []), (3, .ifCond .ne 7, [3]), (1, .iconst 3, [0, 3]), (3, .goto 15, [5])]),
  (28, [0, 1, 2], [(1, .iload_n 1, []), (1, .iconst 1, [0, 1]), (3, .if_icmp .ne 8, [4]), (2, .bipush 15, [0, 15]), (3, .goto 5, [5])]),
  (38, [0, 1, 2], [(2, .bipush 40, [0, 40]), (0, .nop, [5])]),
  (40, [0, 1, 2], [(3, .invokestatic 85, [0, 32, 3, 1, 907]), (3, .ifCond .ne 5, [7]), (0, .nop, [6])]),
  (46, [], [(1, .iconst (-1), [1, 1]), (1, .ireturn, [0])]),
  (48, [0, 1, 2], [(1, .aload_n 0, []), (3, .invokevirtual 103, [0, 8, 76, 1, 0, 925]), (1, .aload_n 0, []), (3, .getfield 7, [2, 8, 0, 851]), (2, .bipush 54, [0, 54]), (1, .iload_n 1, []), (1, .iadd, []), (1, .iaload, [0]), (1, .istore_n 3, []), (1, .aload_n 0, []), (3, .getfield 7, [2, 8, 0, 851]), (2, .bipush 54, [0, 54]), (1, .iload_n 1, []), (1, .iadd, []), (1, .iload_n 2, []), (1, .iastore, []), (1, .iload_n 3, []), (1, .ireturn, [0])])]
def bk_M_steps : List jx_B := [
  (0, [0, 1], [(1, .iconst 0, [0, 0]), (1, .istore_n 2, []), (1, .iconst 0, [0, 0]), (1, .istore_n 3, []), (1, .iconst 0, [0, 0]), (2, .istore 4, []), (0, .nop, [1])]),
  (7, [0, 1, 2, 3, 4], [(2, .iload 4, []), (1, .aload_n 0, []), (3, .getfield 54, [0, 8, 4, 855]), (3, .if_icmp .ge 54, [3]), (1, .aload_n 0, []), (2, .iload 4, []), (3, .invokevirtual 127, [0, 8, 89, 2, 1, 1060]), (3, .ifCond .eq 39, [2]), (1, .iload_n 2, []), (1, .aload_n 0, []), (3, .getfield 31, [2, 8, 10, 861]), (2, .bipush 26, [0, 26]), (2, .iload 4, []), (1, .imul, []), (1, .iload_n 1, []), (1, .iadd, []), (1, .iaload, [0]), (3, .invokestatic 130, [0, 35, 1, 1, 1064]), (1, .ior, []), (1, .istore_n 2, []), (1, .iload_n 3, []), (1, .aload_n 0, []), (3, .getfield 31, [2, 8, 10, 861]), (2, .bipush 26, [0, 26]), (2, .iload 4, []), (1, .imul, []), (1, .iload_n 1, []), (1, .iadd, []), (1, .iaload, [0]), (3, .invokestatic 133, [0, 31, 1, 1, 1067]), (1, .ior, []), (1, .istore_n 3, []), (0, .nop, [2])]),
  (61, [0, 1, 2, 3, 4], [(3, .iinc 4 1, [0, 1]), (3, .goto (-57), [1])]),
  (67, [0, 1, 2, 3], [(1, .aload_n 0, []), (1, .iload_n 2, []), (1, .iload_n 3, []), (3, .invokevirtual 136, [0, 8, 91, 3, 0, 1070]), (1, .aload_n 0, []), (2, .bipush 6, [0, 6]), (1, .aload_n 0, []), (3, .getfield 31, [2, 8, 10, 861]), (2, .bipush 26, [0, 26]), (1, .aload_n 0, []), (2, .bipush 6, [0, 6]), (3, .invokevirtual 112, [0, 8, 37, 2, 1, 993]), (1, .imul, []), (1, .iload_n 1, []), (1, .iadd, []), (1, .iaload, [0]), (3, .invokevirtual 115, [0, 8, 40, 3, 0, 989]), (1, .return_, [])])]
def bk_M_told : List jx_B := [
  (0, [0, 1], [(1, .iload_n 1, []), (63, .tableswitch 135 0 11 #[63, 68, 73, 73, 73, 85, 93, 101, 109, 117, 125, 130], [11, 1, 2, 3, 3, 3, 4, 5, 6, 7, 8, 9, 10])]),
  (64, [0], [(1, .aload_n 0, []), (3, .invokevirtual 239, [0, 8, 79, 1, 1, 1150]), (1, .ireturn, [0])]),
  (69, [0], [(1, .aload_n 0, []), (3, .getfield 54, [0, 8, 4, 855]), (1, .ireturn, [0])]),
  (74, [0, 1], [(1, .aload_n 0, []), (3, .getfield 7, [2, 8, 0, 851]), (2, .bipush 54, [0, 54]), (1, .iload_n 1, []), (1, .iadd, []), (1, .iconst 2, [0, 2]), (1, .isub, []), (1, .iaload, [0]), (1, .ireturn, [0])]),
  (86, [0], [(1, .aload_n 0, []), (3, .getfield 7, [2, 8, 0, 851]), (2, .bipush 57, [0, 57]), (1, .iaload, [0]), (1, .ireturn, [0])]),
  (94, [0], [(1, .aload_n 0, []), (3, .getfield 7, [2, 8, 0, 851]), (2, .bipush 62, [0, 62]), (1, .iaload, [0]), (1, .ireturn, [0])]),
  (102, [0], [(1, .aload_n 0, []), (3, .getfield 7, [2, 8, 0, 851]), (2, .bipush 63, [0, 63]), (1, .iaload, [0]), (1, .ireturn, [0])]),
  (110, [0], [(1, .aload_n 0, []), (3, .getfield 7, [2, 8, 0, 851]), (2, .bipush 64, [0, 64]), (1, .iaload, [0]), (1, .ireturn, [0])]),
  (118, [0], [(1, .aload_n 0, []), (3, .getfield 7, [2, 8, 0, 851]), (2, .bipush 65, [0, 65]), (1, .iaload, [0]), (1, .ireturn, [0])]),
  (126, [0], [(1, .aload_n 0, []), (3, .getfield 46, [0, 8, 1, 852]), (1, .ireturn, [0])]),
  (131, [0], [(1, .aload_n 0, []), (3, .getfield 89, [0, 8, 3, 854]), (1, .ireturn, [0])]),
  (136, [], [(1, .iconst (-1), [1, 1]), (1, .ireturn, [0])])]
def bk_M_wrong : List jx_B := [
  (0, [0, 1, 2], [(1, .iload_n 1, []), (1, .iconst 0, [0, 0]), (2, .bipush 99, [0, 99]), (3, .invokestatic 85, [0, 32, 3, 1, 907]), (3, .ifCond .eq 14, [1]), (1, .iload_n 2, []), (1, .iconst 0, [0, 0]), (3, .sipush 999, [0, 999]), (3, .invokestatic 85, [0, 32, 3, 1, 907]), (3, .ifCond .ne 5, [2]), (0, .nop, [1])]),
  (21, [], [(1, .iconst (-1), [1, 1]), (1, .ireturn, [0])]),
  (23, [0, 1], [(1, .aload_n 0, []), (3, .getfield 89, [0, 8, 3, 854]), (3, .ifCond .ne 6, [3]), (2, .bipush (-2), [1, 2]), (1, .ireturn, [0])]),
  (33, [0, 1], [(1, .aload_n 0, []), (1, .iload_n 1, []), (3, .invokevirtual 195, [0, 8, 95, 2, 1, 969]), (1, .istore_n 3, []), (1, .iload_n 3, []), (2, .bipush (-9), [1, 9]), (3, .if_icmp .eq 25, [4]), (1, .aload_n 0, []), (3, .getfield 7, [2, 8, 0, 851]), (1, .aload_n 0, []), (1, .iload_n 3, []), (3, .invokevirtual 92, [0, 8, 41, 2, 1, 937]), (1, .iconst 5, [0, 5]), (1, .iadd, []), (1, .iaload, [0]), (2, .bipush 6, [0, 6]), (3, .if_icmp .ne 8, [4]), (2, .bipush (-3), [1, 3]), (3, .goto 4, [5])]),
  (67, [], [(1, .iconst 0, [0, 0]), (0, .nop, [5])]),
  (68, [], [(1, .ireturn, [0])])]
def bk_T_byteAt : List jx_B := [
  (0, [0, 1, 2], [(1, .iload_n 1, []), (3, .invokestatic 129, [0, 3, 1, 1, 543]), (3, .ifCond .eq 14, [1]), (1, .iload_n 2, []), (3, .ifCond .lt 10, [1]), (1, .iload_n 2, []), (3, .sipush 1101, [0, 1101]), (3, .if_icmp .lt 5, [2]), (0, .nop, [1])]),
  (18, [], [(1, .iconst (-1), [1, 1]), (1, .ireturn, [0])]),
  (20, [0, 1, 2], [(1, .aload_n 0, []), (3, .getfield 32, [2, 7, 3, 359]), (1, .iload_n 1, []), (3, .invokevirtual 132, [0, 5, 23, 2, 1, 546]), (1, .istore_n 3, []), (1, .iload_n 3, []), (1, .iconst (-1), [1, 1]), (3, .if_icmp .ne 8, [3]), (2, .bipush (-2), [1, 2]), (3, .goto 16, [4])]),
  (39, [0, 2, 3], [(1, .aload_n 0, []), (3, .getfield 32, [2, 7, 3, 359]), (3, .getfield 143, [2, 5, 3, 335]), (1, .iload_n 3, []), (1, .aaload, [2]), (1, .iload_n 2, []), (3, .invokevirtual 160, [0, 2, 108, 2, 1, 723]), (0, .nop, [4])]),
  (52, [], [(1, .ireturn, [0])])]
def bk_T_find : List jx_B := [
  (0, [0, 1, 2], [(1, .iload_n 1, []), (3, .ifCond .lt 12, [1]), (1, .iload_n 2, []), (3, .ifCond .lt 8, [1]), (1, .iload_n 2, []), (1, .iconst 4, [0, 4]), (3, .if_icmp .lt 5, [2]), (0, .nop, [1])]),
  (13, [], [(1, .iconst (-1), [1, 1]), (1, .ireturn, [0])]),
  (15, [0, 1, 2], [(1, .aload_n 0, []), (3, .getfield 32, [2, 7, 3, 359]), (3, .getfield 136, [2, 5, 2, 333]), (1, .iload_n 1, []), (1, .iload_n 2, []), (3, .invokevirtual 180, [0, 1, 105, 3, 1, 745]), (1, .ireturn, [0])])]
def bk_T_nearest : List jx_B := [
  (0, [0, 1], [(1, .iload_n 1, []), (3, .invokestatic 129, [0, 3, 1, 1, 543]), (3, .ifCond .ne 5, [1]), (1, .iconst (-1), [1, 1]), (1, .ireturn, [0])]),
  (9, [0, 1], [(1, .aload_n 0, []), (3, .getfield 32, [2, 7, 3, 359]), (1, .iload_n 1, []), (3, .invokevirtual 132, [0, 5, 23, 2, 1, 546]), (1, .istore_n 2, []), (1, .iload_n 2, []), (1, .iconst (-1), [1, 1]), (3, .if_icmp .ne 8, [2]), (2, .bipush (-2), [1, 2]), (3, .goto 25, [3])]),
  (28, [0, 2], [(1, .aload_n 0, []), (3, .getfield 20, [2, 7, 2, 358]), (1, .aload_n 0, []), (3, .getfield 32, [2, 7, 3, 359]), (3, .getfield 143, [2, 5, 3, 335]), (1, .iload_n 2, []), (1, .aaload, [2]), (3, .getfield 167, [2, 2, 6, 297]), (3, .getfield 205, [0, 3, 7, 239]), (3, .invokevirtual 208, [0, 0, 103, 2, 1, 786]), (0, .nop, [3])]),
  (50, [], [(1, .ireturn, [0])])]
def bk_A_build : List jx_B := [
  (0, [0, 1], [(1, .aload_n 0, []), (1, .iconst 1, [0, 1]), (3, .putfield 9, [0, 0, 0, 103]), (1, .aload_n 0, []), (3, .getfield 34, [2, 0, 7, 118]), (1, .iconst 0, [0, 0]), (3, .invokestatic 40, [0, 46, 2, 0, 469]), (1, .iconst 0, [0, 0]), (1, .istore_n 2, []), (0, .nop, [1])]),
  (15, [0, 1, 2], [(1, .iload_n 2, []), (2, .bipush 6, [0, 6]), (3, .if_icmp .ge 28, [2]), (1, .aload_n 0, []), (3, .getfield 37, [2, 0, 8, 119]), (1, .iload_n 2, []), (1, .iconst 0, [0, 0]), (1, .iastore, []), (1, .aload_n 0, []), (3, .getfield 31, [2, 0, 6, 116]), (1, .iload_n 2, []), (1, .aload_n 1, []), (3, .getfield 46, [2, 6, 0, 181]), (1, .iload_n 2, []), (1, .iaload, [0]), (1, .iastore, []), (3, .iinc 2 1, [0, 1]), (3, .goto (-28), [1])]),
  (46, [0, 1], [(1, .iconst 0, [0, 0]), (1, .istore_n 2, []), (1, .iconst 1, [0, 1]), (1, .istore_n 3, []), (0, .nop, [3])]),
  (50, [0, 1, 2, 3], [(1, .iload_n 3, []), (2, .bipush 8, [0, 8]), (3, .if_icmp .gt 42, [6]), (1, .aload_n 0, []), (3, .getfield 9, [0, 0, 0, 103]), (2, .istore 4, []), (1, .iload_n 2, []), (2, .istore 5, []), (0, .nop, [4])]),
  (65, [0, 1, 3, 4, 5], [(2, .iload 5, []), (2, .iload 4, []), (3, .if_icmp .ge 17, [5]), (1, .aload_n 0, []), (1, .aload_n 1, []), (2, .iload 5, []), (1, .iload_n 3, []), (3, .invokevirtual 49, [0, 0, 102, 4, 0, 472]), (3, .iinc 5 1, [0, 1]), (3, .goto (-18), [4])]),
  (86, [0, 1, 3, 4], [(2, .iload 4, []), (1, .istore_n 2, []), (3, .iinc 3 1, [0, 1]), (3, .goto (-42), [3])]),
  (95, [0], [(1, .iconst 1, [0, 1]), (1, .istore_n 3, []), (0, .nop, [7])]),
  (97, [0, 3], [(1, .iload_n 3, []), (1, .aload_n 0, []), (3, .getfield 9, [0, 0, 0, 103]), (3, .if_icmp .ge 14, [8]), (1, .aload_n 0, []), (1, .iload_n 3, []), (3, .invokevirtual 53, [0, 0, 56, 2, 0, 485]), (3, .iinc 3 1, [0, 1]), (3, .goto (-16), [7])]),
  (116, [], [(1, .return_, [])])]
def bk_Fl_end : List jx_B := [
  (0, [0], [(1, .aload_n 0, []), (3, .getfield 28, [2, 2, 6, 296]), (1, .aload_n 0, []), (3, .getfield 42, [0, 2, 3, 290]), (3, .invokevirtual 88, [0, 3, 110, 2, 0, 699]), (1, .return_, [])])]
def bk_Fl_tell : List jx_B := [
  (0, [0, 1], [(1, .iload_n 1, []), (83, .tableswitch 202 0 16 #[83, 88, 96, 108, 113, 121, 126, 134, 145, 153, 158, 163, 168, 173, 178, 186, 194], [18, 1, 2, 3, 4, 5, 6, 7, 8, 9, 10, 11, 12, 13, 14, 15, 16, 17])]),
  (84, [0], [(1, .aload_n 0, []), (3, .getfield 42, [0, 2, 3, 290]), (1, .ireturn, [0])]),
  (89, [0], [(1, .aload_n 0, []), (3, .getfield 14, [2, 2, 4, 292]), (3, .getfield 45, [0, 4, 0, 202]), (1, .ireturn, [0])]),
  (97, [0], [(1, .aload_n 0, []), (3, .getfield 14, [2, 2, 4, 292]), (1, .aload_n 0, []), (3, .getfield 42, [0, 2, 3, 290]), (3, .invokevirtual 81, [0, 4, 112, 2, 1, 658]), (1, .ireturn, [0])]),
  (109, [0], [(1, .aload_n 0, []), (3, .getfield 36, [0, 2, 1, 287]), (1, .ireturn, [0])]),
  (114, [0], [(1, .aload_n 0, []), (3, .getfield 28, [2, 2, 6, 296]), (3, .getfield 128, [0, 3, 3, 231]), (1, .ireturn, [0])]),
  (122, [0], [(1, .aload_n 0, []), (3, .getfield 39, [0, 2, 2, 288]), (1, .ireturn, [0])]),
  (127, [0], [(1, .aload_n 0, []), (3, .getfield 28, [2, 2, 6, 296]), (3, .getfield 131, [0, 3, 7, 238]), (1, .ireturn, [0])]),
  (135, [0], [(1, .aload_n 0, []), (3, .getfield 28, [2, 2, 6, 296]), (3, .getfield 134, [1, 3, 8, 241]), (3, .invokestatic 138, [0, 45, 1, 1, 713]), (1, .ireturn, [0])]),
  (146, [0], [(1, .aload_n 0, []), (3, .getfield 28, [2, 2, 6, 296]), (3, .getfield 144, [0, 3, 4, 234]), (1, .ireturn, [0])]),
  (154, [0], [(1, .aload_n 0, []), (3, .getfield 52, [0, 2, 7, 298]), (1, .ireturn, [0])]),
  (159, [0], [(1, .aload_n 0, []), (3, .getfield 55, [0, 2, 8, 299]), (1, .ireturn, [0])]),
  (164, [0], [(1, .aload_n 0, []), (3, .getfield 58, [0, 2, 9, 300]), (1, .ireturn, [0])]),
  (169, [0], [(1, .aload_n 0, []), (3, .getfield 61, [0, 2, 10, 301]), (1, .ireturn, [0])]),
  (174, [0], [(1, .aload_n 0, []), (3, .getfield 64, [0, 2, 11, 302]), (1, .ireturn, [0])]),
  (179, [0], [(1, .aload_n 0, []), (3, .getfield 28, [2, 2, 6, 296]), (3, .getfield 147, [0, 3, 11, 246]), (1, .ireturn, [0])]),
  (187, [0], [(1, .aload_n 0, []), (3, .getfield 28, [2, 2, 6, 296]), (3, .getfield 150, [0, 3, 12, 248]), (1, .ireturn, [0])]),
  (195, [0], [(1, .aload_n 0, []), (3, .getfield 28, [2, 2, 6, 296]), (3, .getfield 153, [0, 3, 13, 250]), (1, .ireturn, [0])]),
  (203, [0], [(1, .aload_n 0, []), (3, .getfield 20, [2, 2, 5, 294]), (3, .getfield 45, [0, 4, 0, 202]), (1, .ireturn, [0])])]
def bk_R_skip : List jx_B := [
  (0, [0, 1, 2], [(1, .aload_n 0, []), (1, .iload_n 1, []), (3, .invokevirtual 79, [0, 3, 110, 2, 0, 650]), (1, .aload_n 0, []), (1, .iconst 0, [0, 0]), (3, .putfield 36, [3, 3, 6, 236]), (1, .aload_n 0, []), (1, .iconst 0, [0, 0]), (3, .putfield 55, [0, 3, 7, 237]), (1, .aload_n 0, []), (1, .aload_n 0, []), (3, .getfield 18, [2, 3, 0, 227]), (1, .aload_n 0, []), (3, .getfield 58, [1, 3, 8, 240]), (1, .iload_n 2, []), (3, .invokevirtual 83, [0, 0, 104, 3, 2, 682]), (3, .putfield 58, [1, 3, 8, 240]), (1, .return_, [])])]
def bk_R_take : List jx_B := [
  (0, [0, 1, 2], [(1, .aload_n 0, []), (3, .getfield 30, [0, 3, 3, 230]), (1, .iconst 2, [0, 2]), (1, .iand, []), (3, .ifCond .ne 13, [1]), (1, .aload_n 0, []), (1, .iload_n 1, []), (1, .iload_n 2, []), (1, .iload_n 2, []), (1, .iconst 1, [0, 1]), (1, .iadd, []), (3, .invokevirtual 71, [0, 3, 64, 4, 0, 615]), (1, .return_, [])]),
  (19, [0, 1, 2], [(1, .iload_n 1, []), (3, .invokestatic 75, [0, 16, 1, 1, 647]), (1, .istore_n 3, []), (1, .aload_n 0, []), (3, .getfield 33, [0, 3, 4, 233]), (1, .iconst 2, [0, 2]), (3, .if_icmp .ne 40, [2]), (1, .iload_n 3, []), (3, .ifCond .lt 36, [2]), (1, .aload_n 0, []), (1, .iconst 0, [0, 0]), (3, .putfield 33, [0, 3, 4, 233]), (1, .aload_n 0, []), (1, .aload_n 0, []), (3, .getfield 62, [0, 3, 5, 235]), (3, .invokestatic 75, [0, 16, 1, 1, 647]), (2, .bipush 16, [0, 16]), (1, .imul, []), (1, .iload_n 3, []), (1, .iadd, []), (2, .bipush 127, [0, 127]), (1, .iand, []), (1, .iload_n 2, []), (1, .iconst 2, [0, 2]), (1, .isub, []), (1, .iload_n 2, []), (1, .iconst 1, [0, 1]), (1, .iadd, []), (3, .invokevirtual 71, [0, 3, 64, 4, 0, 615]), (3, .goto 56, [5])]),
  (69, [0, 1, 2, 3], [(1, .aload_n 0, []), (3, .getfield 33, [0, 3, 4, 233]), (1, .iconst 1, [0, 1]), (3, .if_icmp .ne 20, [3]), (1, .iload_n 3, []), (3, .ifCond .lt 16, [3]), (1, .aload_n 0, []), (1, .iconst 2, [0, 2]), (3, .putfield 33, [0, 3, 4, 233]), (1, .aload_n 0, []), (1, .iload_n 1, []), (3, .putfield 62, [0, 3, 5, 235]), (3, .goto 31, [5])]),
  (94, [0, 1, 2], [(1, .aload_n 0, []), (1, .iload_n 2, []), (3, .invokevirtual 79, [0, 3, 110, 2, 0, 650]), (1, .iload_n 1, []), (2, .bipush 37, [0, 37]), (3, .if_icmp .ne 11, [4]), (1, .aload_n 0, []), (1, .iconst 1, [0, 1]), (3, .putfield 33, [0, 3, 4, 233]), (3, .goto 12, [5])]),
  (113, [0, 1, 2], [(1, .aload_n 0, []), (1, .iload_n 1, []), (1, .iload_n 2, []), (1, .iload_n 2, []), (1, .iconst 1, [0, 1]), (1, .iadd, []), (3, .invokevirtual 71, [0, 3, 64, 4, 0, 615]), (0, .nop, [5])]),
  (122, [], [(1, .return_, [])])]
def bk_Sg_copyFrom : List jx_B := [
  (0, [0, 1], [(1, .aload_n 0, []), (1, .iconst 0, [0, 0]), (3, .putfield 9, [0, 4, 0, 201]), (1, .iconst 0, [0, 0]), (1, .istore_n 2, []), (0, .nop, [1])]),
  (7, [0, 1, 2], [(1, .iload_n 2, []), (1, .aload_n 1, []), (3, .getfield 9, [0, 4, 0, 201]), (3, .if_icmp .ge 33, [2]), (1, .aload_n 0, []), (1, .aload_n 1, []), (3, .getfield 22, [2, 4, 3, 210]), (1, .iload_n 2, []), (2, .bipush 40, [0, 40]), (1, .imul, []), (1, .aload_n 1, []), (3, .getfield 19, [2, 4, 2, 207]), (1, .iload_n 2, []), (1, .iaload, [0]), (1, .aload_n 1, []), (3, .getfield 15, [2, 4, 1, 204]), (1, .iload_n 2, []), (1, .iaload, [0]), (3, .invokevirtual 26, [0, 4, 111, 5, 0, 436]), (3, .iinc 2 1, [0, 1]), (3, .goto (-35), [1])]),
  (45, [], [(1, .return_, [])])]
def bk_St_init : List jx_B := [
  (0, [0, 1, 2], [(1, .aload_n 0, []), (3, .invokespecial 3, [2, 173, 95, 96]), (1, .aload_n 0, []), (3, .new 9, [6, 174, 175, 79]), (1, .dup, []), (3, .invokespecial 11, [1, 72, 1, 2]), (3, .putfield 12, [2, 5, 0, 328]), (0, .nop, [1])]),
  (15, [0, 1, 2], [(1, .aload_n 0, []), (1, .iconst 3, [0, 3]), (2, .newarray .int, [140]), (3, .putfield 18, [2, 5, 1, 330]), (0, .nop, [2])]),
  (22, [0, 1, 2], [(1, .aload_n 0, []), (1, .iconst 4, [0, 4]), (3, .anewarray 22, [2, 188]), (3, .putfield 24, [2, 5, 3, 334]), (0, .nop, [3])]),
  (30, [0, 1, 2], [(1, .aload_n 0, []), (1, .iconst 0, [0, 0]), (3, .putfield 28, [0, 5, 4, 336]), (0, .nop, [4])]),
  (35, [0, 1, 2], [(1, .aload_n 0, []), (1, .iconst 0, [0, 0]), (3, .putfield 32, [0, 5, 5, 338]), (0, .nop, [5])]),
  (40, [0, 1, 2], [(1, .aload_n 0, []), (1, .aload_n 2, []), (3, .putfield 35, [2, 5, 2, 332]), (0, .nop, [6])]),
  (45, [0, 1, 2], [(1, .aload_n 0, []), (3, .getfield 18, [2, 5, 1, 330]), (1, .iconst 2, [0, 2]), (2, .bipush 10, [0, 10]), (1, .iastore, []), (0, .nop, [7])]),
  (53, [0, 1, 2], [(1, .iconst 0, [0, 0]), (1, .istore_n 3, []), (0, .nop, [8])]),
  (55, [0, 1, 2, 3], [(1, .iload_n 3, []), (1, .iconst 4, [0, 4]), (3, .if_icmp .ge 24, [10]), (1, .aload_n 0, []), (3, .getfield 24, [2, 5, 3, 334]), (1, .iload_n 3, []), (3, .new 22, [2, 188, 190, 80]), (1, .dup, []), (1, .aload_n 1, []), (1, .aload_n 2, []), (3, .invokespecial 39, [0, 106, 3, 191]), (1, .aastore, [2]), (0, .nop, [9])]),
  (75, [0, 1, 2, 3], [(3, .iinc 3 1, [0, 1]), (3, .goto (-23), [8])]),
  (81, [], [(1, .return_, [])])]
def bk_St_flowOfSegment : List jx_B := [
  (0, [0, 1], [(1, .aload_n 0, []), (1, .iload_n 1, []), (3, .invokevirtual 63, [0, 5, 23, 2, 1, 563]), (1, .istore_n 2, []), (1, .iload_n 2, []), (1, .iconst (-1), [1, 1]), (3, .if_icmp .ne 69, [2]), (1, .aload_n 0, []), (3, .getfield 28, [0, 5, 4, 336]), (1, .iconst 4, [0, 4]), (3, .if_icmp .lt 18, [1]), (1, .aload_n 0, []), (1, .iconst 0, [0, 0]), (3, .invokevirtual 67, [0, 5, 71, 2, 0, 564]), (1, .aload_n 0, []), (1, .dup, []), (3, .getfield 32, [0, 5, 5, 338]), (1, .iconst 1, [0, 1]), (1, .iadd, []), (3, .putfield 32, [0, 5, 5, 338]), (0, .nop, [1])]),
  (34, [0, 1], [(1, .aload_n 0, []), (3, .getfield 28, [0, 5, 4, 336]), (1, .istore_n 2, []), (1, .aload_n 0, []), (3, .getfield 24, [2, 5, 3, 334]), (1, .iload_n 2, []), (1, .aaload, [2]), (1, .iload_n 1, []), (1, .aload_n 0, []), (3, .getfield 18, [2, 5, 1, 330]), (1, .iconst 0, [0, 0]), (1, .iaload, [0]), (1, .aload_n 0, []), (3, .getfield 18, [2, 5, 1, 330]), (1, .iconst 1, [0, 1]), (1, .iaload, [0]), (1, .aload_n 0, []), (3, .getfield 18, [2, 5, 1, 330]), (1, .iconst 2, [0, 2]), (1, .iaload, [0]), (3, .invokevirtual 71, [0, 2, 107, 5, 0, 572]), (1, .aload_n 0, []), (1, .dup, []), (3, .getfield 28, [0, 5, 4, 336]), (1, .iconst 1, [0, 1]), (1, .iadd, []), (3, .putfield 28, [0, 5, 4, 336]), (0, .nop, [2])]),
  (77, [0, 2], [(1, .aload_n 0, []), (1, .iload_n 2, []), (3, .invokevirtual 75, [0, 5, 22, 2, 3, 568]), (1, .areturn, [])])]
def bk_M_init : List jx_B := [
  (0, [0], [(1, .aload_n 0, []), (3, .invokespecial 1, [2, 814, 95, 96]), (1, .aload_n 0, []), (3, .sipush 22416, [0, 22416]), (2, .newarray .int, [140]), (3, .putfield 7, [2, 8, 0, 851]), (0, .nop, [1])]),
  (13, [0], [(1, .aload_n 0, []), (2, .bipush 40, [0, 40]), (2, .newarray .int, [140]), (3, .putfield 13, [2, 8, 2, 853]), (0, .nop, [2])]),
  (21, [0], [(1, .aload_n 0, []), (2, .bipush 49, [0, 49]), (2, .newarray .int, [140]), (3, .putfield 16, [2, 8, 5, 856]), (0, .nop, [3])]),
  (29, [0], [(1, .aload_n 0, []), (3, .sipush 392, [0, 392]), (2, .newarray .int, [140]), (3, .putfield 19, [2, 8, 6, 857]), (0, .nop, [4])]),
  (38, [0], [(1, .aload_n 0, []), (2, .bipush 49, [0, 49]), (2, .newarray .int, [140]), (3, .putfield 22, [2, 8, 7, 858]), (0, .nop, [5])]),
  (46, [0], [(1, .aload_n 0, []), (2, .bipush 49, [0, 49]), (2, .newarray .int, [140]), (3, .putfield 25, [2, 8, 8, 859]), (0, .nop, [6])]),
  (54, [0], [(1, .aload_n 0, []), (2, .bipush 49, [0, 49]), (2, .newarray .int, [140]), (3, .putfield 28, [2, 8, 9, 860]), (0, .nop, [7])]),
  (62, [0], [(1, .aload_n 0, []), (3, .sipush 1274, [0, 1274]), (2, .newarray .int, [140]), (3, .putfield 31, [2, 8, 10, 861]), (0, .nop, [8])]),
  (71, [0], [(1, .aload_n 0, []), (2, .bipush 9, [0, 9]), (2, .newarray .int, [140]), (3, .putfield 34, [2, 8, 11, 862]), (0, .nop, [9])]),
  (79, [0], [(1, .aload_n 0, []), (2, .bipush 49, [0, 49]), (2, .newarray .int, [140]), (3, .putfield 37, [2, 8, 15, 866]), (0, .nop, [10])]),
  (87, [0], [(1, .aload_n 0, []), (2, .bipush 49, [0, 49]), (2, .newarray .int, [140]), (3, .putfield 40, [2, 8, 16, 867]), (0, .nop, [11])]),
  (95, [0], [(1, .aload_n 0, []), (3, .getfield 7, [2, 8, 0, 851]), (2, .bipush 56, [0, 56]), (2, .bipush 10, [0, 10]), (1, .iastore, []), (0, .nop, [12])]),
  (104, [0], [(1, .aload_n 0, []), (3, .invokevirtual 43, [0, 8, 117, 1, 0, 815]), (1, .return_, [])])]
def bk_M_byteNow : List jx_B := [
  (0, [0, 1], [(1, .aload_n 0, []), (1, .iload_n 1, []), (3, .invokevirtual 173, [0, 8, 115, 2, 1, 1017]), (1, .istore_n 2, []), (1, .iload_n 2, []), (2, .bipush (-9), [1, 9]), (3, .if_icmp .ne 8, [1]), (2, .bipush (-9), [1, 9]), (3, .goto 9, [2])]),
  (17, [0, 1, 2], [(1, .aload_n 0, []), (1, .iload_n 2, []), (1, .iload_n 1, []), (3, .invokevirtual 170, [0, 8, 77, 3, 1, 1029]), (0, .nop, [2])]),
  (23, [], [(1, .ireturn, [0])])]
def bk_M_covered : List jx_B := [
  (0, [0, 1], [(1, .iconst 0, [0, 0]), (1, .istore_n 2, []), (1, .aload_n 0, []), (1, .iconst 4, [0, 4]), (3, .invokevirtual 112, [0, 8, 37, 2, 1, 993]), (1, .istore_n 3, []), (1, .iconst 0, [0, 0]), (2, .istore 4, []), (0, .nop, [1])]),
  (11, [0, 1, 2, 3, 4], [(2, .iload 4, []), (1, .aload_n 0, []), (1, .iconst 5, [0, 5]), (3, .invokevirtual 112, [0, 8, 37, 2, 1, 993]), (3, .if_icmp .ge 49, [4]), (1, .aload_n 0, []), (3, .getfield 7, [2, 8, 0, 851]), (1, .aload_n 0, []), (2, .iload 4, []), (3, .invokevirtual 161, [0, 8, 39, 2, 1, 1009]), (1, .iaload, [0]), (1, .aload_n 0, []), (3, .getfield 7, [2, 8, 0, 851]), (1, .aload_n 0, []), (2, .iload 4, []), (3, .invokevirtual 161, [0, 8, 39, 2, 1, 1009]), (1, .iconst 1, [0, 1]), (1, .iadd, []), (1, .iaload, [0]), (1, .iadd, []), (2, .istore 5, []), (2, .iload 5, []), (1, .iload_n 3, []), (3, .if_icmp .le 8, [2]), (2, .iload 5, []), (3, .goto 4, [3])]),
  (59, [0, 1, 2, 3, 4], [(1, .iload_n 3, []), (0, .nop, [3])]),
  (60, [0, 1, 2, 4], [(1, .istore_n 3, []), (3, .iinc 4 1, [0, 1]), (3, .goto (-53), [1])]),
  (67, [0, 1, 2, 3], [(1, .aload_n 0, []), (1, .iconst 4, [0, 4]), (3, .invokevirtual 112, [0, 8, 37, 2, 1, 993]), (2, .istore 4, []), (0, .nop, [5])]),
  (74, [0, 1, 2, 3, 4], [(2, .iload 4, []), (1, .iload_n 3, []), (3, .if_icmp .ge 30, [8]), (1, .aload_n 0, []), (2, .iload 4, []), (3, .invokevirtual 173, [0, 8, 115, 2, 1, 1017]), (2, .bipush (-9), [1, 9]), (3, .if_icmp .eq 13, [7]), (1, .iload_n 1, []), (3, .ifCond .eq 6, [6]), (2, .iload 4, []), (1, .ireturn, [0])]),
  (98, [0, 1, 2, 3, 4], [(3, .iinc 2 1, [0, 1]), (0, .nop, [7])]),
  (101, [0, 1, 2, 3, 4], [(3, .iinc 4 1, [0, 1]), (3, .goto (-30), [5])]),
  (107, [1, 2], [(1, .iload_n 1, []), (3, .ifCond .eq 8, [9]), (2, .bipush (-9), [1, 9]), (3, .goto 4, [10])]),
  (116, [2], [(1, .iload_n 2, []), (0, .nop, [10])]),
  (117, [], [(1, .ireturn, [0])])]
def bk_M_nearest : List jx_B := [
  (0, [0, 1], [(1, .aload_n 0, []), (1, .iload_n 1, []), (3, .invokevirtual 220, [0, 8, 114, 2, 1, 1098]), (1, .istore_n 2, []), (1, .iload_n 2, []), (3, .ifCond .ge 5, [1]), (1, .iload_n 2, []), (1, .ireturn, [0])]),
  (12, [0, 2], [(1, .iconst 0, [0, 0]), (1, .istore_n 3, []), (0, .nop, [2])]),
  (14, [0, 2, 3], [(1, .iload_n 3, []), (1, .aload_n 0, []), (3, .getfield 54, [0, 8, 4, 855]), (3, .if_icmp .ge 16, [3]), (1, .aload_n 0, []), (3, .getfield 37, [2, 8, 15, 866]), (1, .iload_n 3, []), (1, .iconst 0, [0, 0]), (1, .iastore, []), (3, .iinc 3 1, [0, 1]), (3, .goto (-18), [2])]),
  (35, [0, 2], [(1, .iconst 1, [0, 1]), (1, .istore_n 3, []), (1, .aload_n 0, []), (3, .getfield 40, [2, 8, 16, 867]), (1, .iconst 0, [0, 0]), (1, .aload_n 0, []), (3, .getfield 7, [2, 8, 0, 851]), (1, .aload_n 0, []), (1, .iload_n 2, []), (3, .invokevirtual 92, [0, 8, 41, 2, 1, 937]), (2, .bipush 6, [0, 6]), (1, .iadd, []), (1, .iaload, [0]), (1, .iastore, []), (1, .iconst 1, [0, 1]), (2, .istore 4, []), (1, .iconst 0, [0, 0]), (2, .istore 5, []), (0, .nop, [4])]),
  (62, [0, 3, 4, 5], [(2, .iload 5, []), (1, .iload_n 3, []), (3, .if_icmp .ge 128, [11]), (1, .aload_n 0, []), (3, .getfield 40, [2, 8, 16, 867]), (2, .iload 5, []), (1, .iaload, [0]), (2, .istore 6, []), (2, .iload 4, []), (3, .ifCond .eq 7, [5]), (1, .iconst 0, [0, 0]), (3, .goto 10, [6])]),
  (86, [0, 3, 5, 6], [(1, .aload_n 0, []), (3, .getfield 37, [2, 8, 15, 866]), (2, .iload 6, []), (1, .iaload, [0]), (0, .nop, [6])]),
  (93, [0, 3, 5, 6], [(2, .istore 7, []), (1, .iconst 0, [0, 0]), (2, .istore 4, []), (1, .iconst 0, [0, 0]), (2, .istore 8, []), (0, .nop, [7])]),
  (101, [0, 3, 4, 5, 6, 7, 8], [(2, .iload 8, []), (2, .bipush 26, [0, 26]), (3, .if_icmp .ge 82, [10]), (1, .aload_n 0, []), (3, .getfield 31, [2, 8, 10, 861]), (2, .bipush 26, [0, 26]), (2, .iload 6, []), (1, .imul, []), (2, .iload 8, []), (1, .iadd, []), (1, .iaload, [0]), (2, .istore 9, []), (1, .aload_n 0, []), (3, .getfield 28, [2, 8, 9, 860]), (2, .iload 9, []), (1, .iaload, [0]), (3, .ifCond .eq 8, [8]), (2, .iload 7, []), (1, .iconst 1, [0, 1]), (1, .iadd, []), (1, .ireturn, [0])]),
  (138, [0, 3, 4, 5, 6, 7, 8, 9], [(1, .aload_n 0, []), (3, .getfield 37, [2, 8, 15, 866]), (2, .iload 9, []), (1, .iaload, [0]), (3, .ifCond .ne 36, [9]), (2, .iload 9, []), (1, .aload_n 0, []), (3, .getfield 40, [2, 8, 16, 867]), (1, .iconst 0, [0, 0]), (1, .iaload, [0]), (3, .if_icmp .eq 25, [9]), (1, .aload_n 0, []), (3, .getfield 37, [2, 8, 15, 866]), (2, .iload 9, []), (2, .iload 7, []), (1, .iconst 1, [0, 1]), (1, .iadd, []), (1, .iastore, []), (1, .aload_n 0, []), (3, .getfield 40, [2, 8, 16, 867]), (1, .iload_n 3, []), (2, .iload 9, []), (1, .iastore, []), (3, .iinc 3 1, [0, 1]), (0, .nop, [9])]),
  (181, [0, 3, 4, 5, 6, 7, 8], [(3, .iinc 8 1, [0, 1]), (3, .goto (-83), [7])]),
  (187, [0, 3, 4, 5], [(3, .iinc 5 1, [0, 1]), (3, .goto (-128), [4])]),
  (193, [], [(2, .bipush (-9), [1, 9]), (1, .ireturn, [0])])]
def bk_M_others : List jx_B := [
  (0, [0], [(1, .aload_n 0, []), (3, .invokevirtual 43, [0, 8, 117, 1, 0, 815]), (1, .iconst 0, [0, 0]), (1, .istore_n 1, []), (0, .nop, [1])]),
  (6, [0, 1], [(1, .iload_n 1, []), (1, .aload_n 0, []), (3, .getfield 7, [2, 8, 0, 851]), (2, .bipush 57, [0, 57]), (1, .iaload, [0]), (3, .if_icmp .ge 51, [2]), (1, .aload_n 0, []), (3, .getfield 7, [2, 8, 0, 851]), (1, .aload_n 0, []), (1, .iload_n 1, []), (3, .invokevirtual 92, [0, 8, 41, 2, 1, 937]), (2, .bipush 6, [0, 6]), (1, .iadd, []), (1, .iconst 0, [0, 0]), (1, .iastore, []), (1, .aload_n 0, []), (3, .getfield 7, [2, 8, 0, 851]), (1, .aload_n 0, []), (1, .iload_n 1, []), (3, .invokevirtual 92, [0, 8, 41, 2, 1, 937]), (2, .bipush 7, [0, 7]), (1, .iadd, []), (1, .iconst 1, [0, 1]), (1, .iastore, []), (1, .aload_n 0, []), (3, .getfield 7, [2, 8, 0, 851]), (1, .aload_n 0, []), (1, .iload_n 1, []), (3, .invokevirtual 92, [0, 8, 41, 2, 1, 937]), (2, .bipush 8, [0, 8]), (1, .iadd, []), (1, .iconst 0, [0, 0]), (1, .iastore, []), (3, .iinc 1 1, [0, 1]), (3, .goto (-56), [1])]),
  (65, [0], [(1, .aload_n 0, []), (3, .getfield 54, [0, 8, 4, 855]), (1, .ireturn, [0])])]
def bk_M_possible : List jx_B := [
  (0, [0, 1], [(1, .aload_n 0, []), (1, .iload_n 1, []), (3, .invokevirtual 220, [0, 8, 114, 2, 1, 1098]), (1, .istore_n 2, []), (1, .iload_n 2, []), (3, .ifCond .ge 6, [1]), (1, .iload_n 2, []), (1, .i2l, []), (1, .lreturn, [])]),
  (13, [0, 2], [(1, .aload_n 0, []), (1, .aload_n 0, []), (1, .iload_n 2, []), (3, .invokevirtual 92, [0, 8, 41, 2, 1, 937]), (3, .putfield 109, [0, 8, 12, 863]), (1, .aload_n 0, []), (3, .invokevirtual 232, [0, 8, 96, 1, 2, 1130]), (1, .lreturn, [])])]
def bk_M_read : List jx_B := [
  (0, [0, 1, 2], [(1, .iload_n 2, []), (1, .iconst 0, [0, 0]), (2, .bipush 7, [0, 7]), (3, .invokestatic 85, [0, 32, 3, 1, 907]), (3, .ifCond .eq 11, [1]), (1, .aload_n 0, []), (1, .iload_n 1, []), (3, .invokevirtual 220, [0, 8, 114, 2, 1, 1098]), (3, .goto 4, [2])]),
  (18, [0, 2], [(1, .iconst (-1), [1, 1]), (0, .nop, [2])]),
  (19, [0, 2], [(1, .istore_n 3, []), (1, .iload_n 3, []), (3, .ifCond .ge 5, [3]), (1, .iload_n 3, []), (1, .ireturn, [0])]),
  (26, [0, 2, 3], [(1, .aload_n 0, []), (1, .aload_n 0, []), (1, .iload_n 3, []), (3, .invokevirtual 92, [0, 8, 41, 2, 1, 937]), (3, .putfield 109, [0, 8, 12, 863]), (1, .aload_n 0, []), (1, .iload_n 2, []), (3, .invokevirtual 236, [0, 8, 97, 2, 1, 1138]), (1, .ireturn, [0])])]
def bk_M_reads : List jx_B := [
  (0, [0, 1, 2, 3], [(1, .aload_n 0, []), (2, .bipush 18, [0, 18]), (1, .iconst 1, [0, 1]), (3, .invokevirtual 121, [0, 8, 27, 3, 0, 997]), (2, .bipush 7, [0, 7]), (2, .istore 4, []), (0, .nop, [1])]),
  (11, [0, 1, 2, 3, 4], [(2, .iload 4, []), (3, .ifCond .le 49, [2]), (1, .aload_n 0, []), (2, .bipush 22, [0, 22]), (2, .iload 4, []), (1, .iadd, []), (1, .aload_n 0, []), (2, .bipush 22, [0, 22]), (2, .iload 4, []), (1, .iadd, []), (1, .iconst 1, [0, 1]), (1, .isub, []), (3, .invokevirtual 112, [0, 8, 37, 2, 1, 993]), (3, .invokevirtual 115, [0, 8, 40, 3, 0, 989]), (1, .aload_n 0, []), (2, .bipush 30, [0, 30]), (2, .iload 4, []), (1, .iadd, []), (1, .aload_n 0, []), (2, .bipush 30, [0, 30]), (2, .iload 4, []), (1, .iadd, []), (1, .iconst 1, [0, 1]), (1, .isub, []), (3, .invokevirtual 112, [0, 8, 37, 2, 1, 993]), (3, .invokevirtual 115, [0, 8, 40, 3, 0, 989]), (3, .iinc 4 (-1), [1, 1]), (3, .goto (-48), [1])]),
  (62, [0, 1, 2, 3], [(1, .aload_n 0, []), (2, .bipush 22, [0, 22]), (1, .iload_n 1, []), (3, .invokevirtual 115, [0, 8, 40, 3, 0, 989]), (1, .aload_n 0, []), (2, .bipush 30, [0, 30]), (1, .iload_n 2, []), (3, .invokevirtual 115, [0, 8, 40, 3, 0, 989]), (1, .iload_n 1, []), (2, .bipush 97, [0, 97]), (2, .bipush 122, [0, 122]), (3, .invokestatic 85, [0, 32, 3, 1, 907]), (3, .ifCond .eq 14, [3]), (1, .aload_n 0, []), (1, .iload_n 1, []), (2, .bipush 97, [0, 97]), (1, .isub, []), (3, .invokevirtual 139, [0, 8, 121, 2, 0, 1056]), (3, .goto 16, [4])]),
  (98, [0, 3], [(1, .aload_n 0, []), (2, .bipush 6, [0, 6]), (1, .iconst 0, [0, 0]), (3, .invokevirtual 115, [0, 8, 40, 3, 0, 989]), (1, .aload_n 0, []), (1, .iconst 1, [0, 1]), (1, .iconst 0, [0, 0]), (3, .invokevirtual 136, [0, 8, 91, 3, 0, 1070]), (0, .nop, [4])]),
  (111, [0, 3], [(1, .aload_n 0, []), (3, .getfield 28, [2, 8, 9, 860]), (1, .aload_n 0, []), (2, .bipush 6, [0, 6]), (3, .invokevirtual 112, [0, 8, 37, 2, 1, 993]), (1, .iaload, [0]), (2, .istore 4, []), (1, .iconst 0, [0, 0]), (2, .istore 5, []), (1, .iconst 0, [0, 0]), (2, .istore 6, []), (0, .nop, [5])]),
  (130, [0, 3, 4, 5, 6], [(2, .iload 6, []), (1, .aload_n 0, []), (3, .getfield 54, [0, 8, 4, 855]), (3, .if_icmp .ge 34, [8]), (2, .iload 5, []), (1, .aload_n 0, []), (2, .iload 6, []), (3, .invokevirtual 127, [0, 8, 89, 2, 1, 1060]), (3, .ifCond .eq 13, [6]), (1, .aload_n 0, []), (3, .getfield 28, [2, 8, 9, 860]), (2, .iload 6, []), (1, .iaload, [0]), (3, .goto 4, [7])]),
  (160, [0, 3, 4, 6], [(1, .iconst 0, [0, 0]), (0, .nop, [7])]),
  (161, [0, 3, 4, 6], [(1, .ior, []), (2, .istore 5, []), (3, .iinc 6 1, [0, 1]), (3, .goto (-37), [5])]),
  (170, [0, 3, 4, 5], [(1, .iconst 0, [0, 0]), (2, .istore 6, []), (0, .nop, [9])]),
  (173, [0, 3, 4, 5, 6], [(2, .iload 6, []), (2, .bipush 6, [0, 6]), (3, .if_icmp .ge 42, [11]), (2, .iload 4, []), (2, .iload 6, []), (1, .ishr, []), (1, .iconst 1, [0, 1]), (1, .iand, []), (1, .iconst 1, [0, 1]), (3, .if_icmp .ne 25, [10]), (1, .aload_n 0, []), (2, .iload 6, []), (1, .aload_n 0, []), (2, .bipush 30, [0, 30]), (1, .aload_n 0, []), (2, .iload 6, []), (3, .invokevirtual 64, [0, 8, 43, 2, 1, 819]), (1, .iadd, []), (1, .iconst 1, [0, 1]), (1, .isub, []), (3, .invokevirtual 112, [0, 8, 37, 2, 1, 993]), (1, .iload_n 3, []), (3, .invokevirtual 142, [0, 8, 98, 4, 0, 1074]), (0, .nop, [10])]),
  (213, [0, 3, 4, 5, 6], [(3, .iinc 6 1, [0, 1]), (3, .goto (-43), [9])]),
  (219, [0, 3, 4, 5], [(1, .iconst 0, [0, 0]), (2, .istore 6, []), (0, .nop, [12])]),
  (222, [0, 3, 4, 5, 6], [(2, .iload 6, []), (2, .bipush 6, [0, 6]), (3, .if_icmp .ge 48, [15]), (2, .iload 5, []), (2, .iload 4, []), (1, .iconst (-1), [1, 1]), (1, .ixor, []), (1, .iand, []), (2, .iload 6, []), (1, .ishr, []), (3, .ifCond .ne 4, [13]), (1, .return_, [])]),
  (243, [0, 3, 4, 5, 6], [(2, .iload 5, []), (2, .iload 4, []), (1, .iconst (-1), [1, 1]), (1, .ixor, []), (1, .iand, []), (2, .iload 6, []), (1, .ishr, []), (1, .iconst 1, [0, 1]), (1, .iand, []), (1, .iconst 1, [0, 1]), (3, .if_icmp .ne 12, [14]), (1, .aload_n 0, []), (2, .iload 6, []), (2, .bipush (-9), [1, 9]), (1, .iload_n 3, []), (3, .invokevirtual 142, [0, 8, 98, 4, 0, 1074]), (0, .nop, [14])]),
  (268, [0, 3, 4, 5, 6], [(3, .iinc 6 1, [0, 1]), (3, .goto (-49), [12])]),
  (274, [], [(1, .return_, [])])]
def bk_M_undo : List jx_B := [
  (0, [0], [(1, .aload_n 0, []), (3, .getfield 46, [0, 8, 1, 852]), (3, .ifCond .ne 6, [1]), (2, .bipush (-2), [1, 2]), (1, .ireturn, [0])]),
  (10, [0], [(1, .aload_n 0, []), (1, .aload_n 0, []), (3, .getfield 46, [0, 8, 1, 852]), (1, .iconst 0, [0, 0]), (3, .invokevirtual 50, [0, 8, 29, 3, 0, 929]), (1, .aload_n 0, []), (1, .dup, []), (3, .getfield 46, [0, 8, 1, 852]), (1, .iconst 1, [0, 1]), (1, .isub, []), (3, .putfield 46, [0, 8, 1, 852]), (1, .aload_n 0, []), (3, .invokevirtual 43, [0, 8, 117, 1, 0, 815]), (1, .aload_n 0, []), (3, .getfield 46, [0, 8, 1, 852]), (1, .ireturn, [0])])]
def bk_T_init : List jx_B := [
  (0, [0], [(1, .aload_n 0, []), (3, .invokespecial 3, [2, 94, 95, 96]), (1, .aload_n 0, []), (2, .bipush 40, [0, 40]), (2, .newarray .byte, [139]), (3, .putfield 9, [2, 7, 0, 356]), (0, .nop, [1])]),
  (12, [0], [(1, .aload_n 0, []), (1, .iconst 0, [0, 0]), (3, .putfield 13, [0, 7, 1, 357]), (0, .nop, [2])]),
  (17, [0], [(1, .aload_n 0, []), (3, .new 17, [0, 97, 98, 76]), (1, .dup, []), (3, .invokespecial 19, [1, 54, 1, 0]), (3, .putfield 20, [2, 7, 2, 358]), (0, .nop, [3])]),
  (28, [0], [(1, .aload_n 0, []), (3, .new 24, [5, 141, 142, 77]), (1, .dup, []), (1, .aload_n 0, []), (3, .getfield 20, [2, 7, 2, 358]), (3, .new 26, [1, 143, 144, 78]), (1, .dup, []), (3, .invokespecial 28, [1, 58, 1, 1]), (3, .invokespecial 29, [0, 133, 3, 170]), (3, .putfield 32, [2, 7, 3, 359]), (0, .nop, [4])]),
  (50, [0], [(1, .aload_n 0, []), (3, .new 24, [5, 141, 142, 77]), (1, .dup, []), (1, .aload_n 0, []), (3, .getfield 20, [2, 7, 2, 358]), (3, .new 26, [1, 143, 144, 78]), (1, .dup, []), (3, .invokespecial 28, [1, 58, 1, 1]), (3, .invokespecial 29, [0, 133, 3, 170]), (3, .putfield 36, [2, 7, 4, 360]), (0, .nop, [5])]),
  (72, [0], [(1, .aload_n 0, []), (3, .new 39, [2, 353, 190, 80]), (1, .dup, []), (1, .aload_n 0, []), (3, .getfield 20, [2, 7, 2, 358]), (3, .new 26, [1, 143, 144, 78]), (1, .dup, []), (3, .invokespecial 28, [1, 58, 1, 1]), (3, .invokespecial 41, [0, 106, 3, 354]), (3, .putfield 42, [2, 7, 5, 361]), (0, .nop, [6])]),
  (94, [0], [(1, .aload_n 0, []), (1, .iconst 4, [0, 4]), (3, .anewarray 24, [5, 141]), (3, .putfield 46, [2, 7, 6, 362]), (0, .nop, [7])]),
  (102, [0], [(1, .aload_n 0, []), (1, .iconst 0, [0, 0]), (3, .putfield 50, [0, 7, 7, 363]), (0, .nop, [8])]),
  (107, [0], [(1, .iconst 0, [0, 0]), (1, .istore_n 1, []), (0, .nop, [9])]),
  (109, [0, 1], [(1, .iload_n 1, []), (1, .iconst 4, [0, 4]), (3, .if_icmp .ge 33, [11]), (1, .aload_n 0, []), (3, .getfield 46, [2, 7, 6, 362]), (1, .iload_n 1, []), (3, .new 24, [5, 141, 142, 77]), (1, .dup, []), (1, .aload_n 0, []), (3, .getfield 20, [2, 7, 2, 358]), (3, .new 26, [1, 143, 144, 78]), (1, .dup, []), (3, .invokespecial 28, [1, 58, 1, 1]), (3, .invokespecial 29, [0, 133, 3, 170]), (1, .aastore, [5]), (0, .nop, [10])]),
  (138, [0, 1], [(3, .iinc 1 1, [0, 1]), (3, .goto (-32), [9])]),
  (144, [], [(1, .return_, [])])]
def bk_T_mixedWithFlow : List jx_B := [
  (0, [0, 2], [(1, .lload_n 0, []), (1, .aload_n 2, []), (3, .getfield 154, [0, 2, 0, 286]), (1, .i2l, []), (3, .invokestatic 220, [0, 6, 2, 2, 801]), (1, .lstore_n 3, []), (1, .iconst 0, [0, 0]), (2, .istore 5, []), (0, .nop, [1])]),
  (13, [2, 3, 5], [(2, .iload 5, []), (2, .bipush 18, [0, 18]), (3, .if_icmp .ge 21, [2]), (1, .lload_n 3, []), (1, .aload_n 2, []), (2, .iload 5, []), (3, .invokevirtual 157, [0, 2, 129, 2, 1, 709]), (1, .i2l, []), (3, .invokestatic 220, [0, 6, 2, 2, 801]), (1, .lstore_n 3, []), (3, .iinc 5 1, [0, 1]), (3, .goto (-22), [1])]),
  (38, [2, 3], [(1, .lload_n 3, []), (1, .aload_n 2, []), (3, .getfield 167, [2, 2, 6, 297]), (3, .getfield 171, [1, 3, 8, 242]), (3, .invokestatic 220, [0, 6, 2, 2, 801]), (1, .lstore_n 3, []), (1, .iconst 0, [0, 0]), (2, .istore 5, []), (0, .nop, [3])]),
  (53, [2, 3, 5], [(2, .iload 5, []), (2, .bipush 8, [0, 8]), (3, .if_icmp .ge 24, [4]), (1, .lload_n 3, []), (1, .aload_n 2, []), (3, .getfield 167, [2, 2, 6, 297]), (2, .iload 5, []), (3, .invokevirtual 177, [0, 3, 18, 2, 1, 737]), (1, .i2l, []), (3, .invokestatic 220, [0, 6, 2, 2, 801]), (1, .lstore_n 3, []), (3, .iinc 5 1, [0, 1]), (3, .goto (-25), [3])]),
  (81, [2, 3], [(1, .iconst 0, [0, 0]), (2, .istore 5, []), (0, .nop, [5])]),
  (84, [2, 3, 5], [(2, .iload 5, []), (2, .bipush 50, [0, 50]), (3, .if_icmp .ge 26, [6]), (1, .lload_n 3, []), (1, .aload_n 2, []), (1, .aload_n 2, []), (3, .getfield 230, [0, 2, 3, 291]), (2, .iload 5, []), (1, .iadd, []), (3, .invokevirtual 160, [0, 2, 108, 2, 1, 723]), (1, .i2l, []), (3, .invokestatic 220, [0, 6, 2, 2, 801]), (1, .lstore_n 3, []), (3, .iinc 5 1, [0, 1]), (3, .goto (-27), [5])]),
  (114, [3], [(1, .lload_n 3, []), (1, .lreturn, [])])]
def bk_T_property : List jx_B := [
  (0, [0, 1, 2], [(1, .iload_n 1, []), (3, .invokestatic 129, [0, 3, 1, 1, 543]), (3, .ifCond .eq 13, [1]), (1, .iload_n 2, []), (3, .ifCond .lt 9, [1]), (1, .iload_n 2, []), (2, .bipush 18, [0, 18]), (3, .if_icmp .lt 5, [2]), (0, .nop, [1])]),
  (17, [], [(1, .iconst (-1), [1, 1]), (1, .ireturn, [0])]),
  (19, [0, 1, 2], [(1, .aload_n 0, []), (3, .getfield 32, [2, 7, 3, 359]), (1, .iload_n 1, []), (3, .invokevirtual 132, [0, 5, 23, 2, 1, 546]), (1, .istore_n 3, []), (1, .iload_n 3, []), (1, .iconst (-1), [1, 1]), (3, .if_icmp .ne 8, [3]), (2, .bipush (-2), [1, 2]), (3, .goto 16, [4])]),
  (38, [0, 2, 3], [(1, .aload_n 0, []), (3, .getfield 32, [2, 7, 3, 359]), (3, .getfield 143, [2, 5, 3, 335]), (1, .iload_n 3, []), (1, .aaload, [2]), (1, .iload_n 2, []), (3, .invokevirtual 157, [0, 2, 129, 2, 1, 709]), (0, .nop, [4])]),
  (51, [], [(1, .ireturn, [0])])]
def bk_T_undo : List jx_B := [
  (0, [0], [(1, .aload_n 0, []), (3, .getfield 50, [0, 7, 7, 363]), (3, .ifCond .le 11, [1]), (1, .aload_n 0, []), (3, .getfield 50, [0, 7, 7, 363]), (1, .iconst 4, [0, 4]), (3, .if_icmp .le 6, [2]), (0, .nop, [1])]),
  (15, [], [(2, .bipush (-2), [1, 2]), (1, .ireturn, [0])]),
  (18, [0], [(1, .aload_n 0, []), (1, .dup, []), (3, .getfield 50, [0, 7, 7, 363]), (1, .iconst 1, [0, 1]), (1, .isub, []), (3, .putfield 50, [0, 7, 7, 363]), (1, .aload_n 0, []), (3, .getfield 46, [2, 7, 6, 362]), (1, .aload_n 0, []), (3, .getfield 50, [0, 7, 7, 363]), (1, .aaload, [5]), (1, .astore_n 1, []), (1, .aload_n 0, []), (3, .getfield 46, [2, 7, 6, 362]), (1, .aload_n 0, []), (3, .getfield 50, [0, 7, 7, 363]), (1, .aload_n 0, []), (3, .getfield 32, [2, 7, 3, 359]), (1, .aastore, [5]), (1, .aload_n 0, []), (1, .aload_n 1, []), (3, .putfield 32, [2, 7, 3, 359]), (1, .aload_n 0, []), (3, .getfield 20, [2, 7, 2, 358]), (1, .aload_n 0, []), (3, .getfield 32, [2, 7, 3, 359]), (3, .getfield 64, [2, 5, 0, 329]), (3, .invokevirtual 211, [0, 0, 127, 2, 0, 465]), (1, .aload_n 0, []), (3, .getfield 50, [0, 7, 7, 363]), (1, .ireturn, [0])])]
def bk_T_wordsChanged : List jx_B := [
  (0, [0], [(1, .aload_n 0, []), (3, .getfield 20, [2, 7, 2, 358]), (1, .aload_n 0, []), (3, .getfield 32, [2, 7, 3, 359]), (3, .getfield 64, [2, 5, 0, 329]), (3, .invokevirtual 211, [0, 0, 127, 2, 0, 465]), (1, .iconst 0, [0, 0]), (1, .istore_n 1, []), (0, .nop, [1])]),
  (16, [0, 1], [(1, .iload_n 1, []), (1, .aload_n 0, []), (3, .getfield 32, [2, 7, 3, 359]), (3, .getfield 151, [0, 5, 4, 337]), (3, .if_icmp .ge 29, [2]), (1, .iload_n 1, []), (1, .iconst 4, [0, 4]), (3, .if_icmp .ge 24, [2]), (1, .aload_n 0, []), (3, .getfield 32, [2, 7, 3, 359]), (3, .getfield 143, [2, 5, 3, 335]), (1, .iload_n 1, []), (1, .aaload, [2]), (3, .getfield 167, [2, 2, 6, 297]), (3, .invokevirtual 238, [0, 3, 19, 1, 0, 493]), (3, .iinc 1 1, [0, 1]), (3, .goto (-34), [1])]),
  (53, [], [(1, .return_, [])])]
def bk_Fl_copyFrom : List jx_B := [
  (0, [0, 1], [(1, .aload_n 0, []), (1, .aload_n 1, []), (3, .getfield 32, [0, 2, 0, 284]), (3, .putfield 32, [0, 2, 0, 284]), (1, .aload_n 0, []), (1, .aload_n 1, []), (3, .getfield 36, [0, 2, 1, 287]), (3, .putfield 36, [0, 2, 1, 287]), (1, .aload_n 0, []), (1, .aload_n 1, []), (3, .getfield 39, [0, 2, 2, 288]), (3, .putfield 39, [0, 2, 2, 288]), (1, .aload_n 0, []), (1, .aload_n 1, []), (3, .getfield 42, [0, 2, 3, 290]), (3, .putfield 42, [0, 2, 3, 290]), (1, .aload_n 0, []), (3, .getfield 14, [2, 2, 4, 292]), (1, .aload_n 1, []), (3, .getfield 14, [2, 2, 4, 292]), (3, .invokevirtual 67, [0, 4, 132, 2, 0, 432]), (1, .aload_n 0, []), (3, .getfield 20, [2, 2, 5, 294]), (1, .aload_n 1, []), (3, .getfield 20, [2, 2, 5, 294]), (3, .invokevirtual 67, [0, 4, 132, 2, 0, 432]), (1, .aload_n 0, []), (3, .getfield 28, [2, 2, 6, 296]), (1, .aload_n 1, []), (3, .getfield 28, [2, 2, 6, 296]), (3, .invokevirtual 71, [0, 3, 65, 2, 0, 449]), (1, .aload_n 0, []), (1, .aload_n 1, []), (3, .getfield 52, [0, 2, 7, 298]), (3, .putfield 52, [0, 2, 7, 298]), (1, .aload_n 0, []), (1, .aload_n 1, []), (3, .getfield 55, [0, 2, 8, 299]), (3, .putfield 55, [0, 2, 8, 299]), (1, .aload_n 0, []), (1, .aload_n 1, []), (3, .getfield 58, [0, 2, 9, 300]), (3, .putfield 58, [0, 2, 9, 300]), (1, .aload_n 0, []), (1, .aload_n 1, []), (3, .getfield 61, [0, 2, 10, 301]), (3, .putfield 61, [0, 2, 10, 301]), (1, .aload_n 0, []), (1, .aload_n 1, []), (3, .getfield 64, [0, 2, 11, 302]), (3, .putfield 64, [0, 2, 11, 302]), (1, .return_, [])])]
def bk_Fl_deliver : List jx_B := [
  (0, [0], [(1, .aload_n 0, []), (3, .getfield 42, [0, 2, 3, 290]), (3, .sipush 1040, [0, 1040]), (3, .if_icmp .ge 80, [3]), (1, .aload_n 0, []), (1, .aload_n 0, []), (3, .getfield 42, [0, 2, 3, 290]), (3, .invokevirtual 91, [0, 2, 61, 2, 1, 590]), (1, .istore_n 1, []), (1, .iload_n 1, []), (1, .iconst (-1), [1, 1]), (3, .if_icmp .ne 6, [1]), (3, .goto 63, [3])]),
  (27, [0, 1], [(1, .aload_n 0, []), (3, .getfield 14, [2, 2, 4, 292]), (1, .iload_n 1, []), (1, .aload_n 0, []), (3, .getfield 42, [0, 2, 3, 290]), (3, .invokevirtual 94, [0, 4, 67, 3, 1, 602]), (1, .istore_n 2, []), (1, .aload_n 0, []), (1, .aload_n 0, []), (3, .getfield 42, [0, 2, 3, 290]), (1, .iload_n 2, []), (3, .invokevirtual 98, [0, 2, 109, 3, 1, 607]), (3, .ifCond .eq 13, [2]), (1, .aload_n 0, []), (1, .dup, []), (3, .getfield 58, [0, 2, 9, 300]), (1, .iconst 1, [0, 1]), (1, .iadd, []), (3, .putfield 58, [0, 2, 9, 300]), (0, .nop, [2])]),
  (62, [0, 2], [(1, .aload_n 0, []), (3, .getfield 28, [2, 2, 6, 296]), (1, .iload_n 2, []), (1, .aload_n 0, []), (3, .getfield 42, [0, 2, 3, 290]), (3, .invokevirtual 102, [0, 3, 131, 3, 0, 611]), (1, .aload_n 0, []), (1, .dup, []), (3, .getfield 42, [0, 2, 3, 290]), (1, .iconst 1, [0, 1]), (1, .iadd, []), (3, .putfield 42, [0, 2, 3, 290]), (3, .goto (-84), [0])]),
  (87, [0], [(1, .aload_n 0, []), (3, .getfield 14, [2, 2, 4, 292]), (1, .aload_n 0, []), (3, .getfield 42, [0, 2, 3, 290]), (3, .invokevirtual 105, [0, 4, 113, 2, 0, 654]), (1, .return_, [])])]
def bk_Fl_skipGap : List jx_B := [
  (0, [0], [(1, .aload_n 0, []), (3, .getfield 14, [2, 2, 4, 292]), (3, .invokevirtual 108, [0, 4, 70, 1, 1, 673]), (1, .istore_n 1, []), (1, .aload_n 0, []), (1, .dup, []), (3, .getfield 61, [0, 2, 10, 301]), (1, .iconst 1, [0, 1]), (1, .iadd, []), (3, .putfield 61, [0, 2, 10, 301]), (1, .aload_n 0, []), (1, .dup, []), (3, .getfield 64, [0, 2, 11, 302]), (1, .iload_n 1, []), (1, .aload_n 0, []), (3, .getfield 42, [0, 2, 3, 290]), (1, .isub, []), (1, .iadd, []), (3, .putfield 64, [0, 2, 11, 302]), (1, .aload_n 0, []), (3, .getfield 28, [2, 2, 6, 296]), (1, .aload_n 0, []), (3, .getfield 42, [0, 2, 3, 290]), (1, .iload_n 1, []), (1, .aload_n 0, []), (3, .getfield 42, [0, 2, 3, 290]), (1, .isub, []), (3, .invokevirtual 112, [0, 3, 130, 3, 0, 678]), (1, .aload_n 0, []), (1, .iload_n 1, []), (3, .putfield 42, [0, 2, 3, 290]), (1, .return_, [])])]
def bk_M_byteAt : List jx_B := [
  (0, [0, 1, 2], [(1, .iload_n 2, []), (1, .iconst 0, [0, 0]), (3, .sipush 1100, [0, 1100]), (3, .invokestatic 85, [0, 32, 3, 1, 907]), (3, .ifCond .eq 11, [1]), (1, .aload_n 0, []), (1, .iload_n 1, []), (3, .invokevirtual 220, [0, 8, 114, 2, 1, 1098]), (3, .goto 4, [2])]),
  (19, [0, 2], [(1, .iconst (-1), [1, 1]), (0, .nop, [2])]),
  (20, [0, 2], [(1, .istore_n 3, []), (1, .iload_n 3, []), (3, .ifCond .ge 5, [3]), (1, .iload_n 3, []), (1, .ireturn, [0])]),
  (27, [0, 2, 3], [(1, .aload_n 0, []), (1, .aload_n 0, []), (1, .iload_n 3, []), (3, .invokevirtual 92, [0, 8, 41, 2, 1, 937]), (3, .putfield 109, [0, 8, 12, 863]), (1, .aload_n 0, []), (1, .iload_n 2, []), (3, .invokevirtual 229, [0, 8, 136, 2, 1, 1122]), (1, .ireturn, [0])])]
def bk_M_character : List jx_B := [
  (0, [0, 1, 2, 3], [(1, .aload_n 0, []), (1, .iconst 1, [0, 1]), (3, .invokevirtual 146, [0, 8, 85, 2, 1, 1048]), (3, .ifCond .eq 21, [1]), (1, .iload_n 1, []), (2, .bipush 65, [0, 65]), (2, .bipush 90, [0, 90]), (3, .invokestatic 85, [0, 32, 3, 1, 907]), (3, .ifCond .eq 10, [1]), (1, .iload_n 1, []), (2, .bipush 32, [0, 32]), (1, .iadd, []), (3, .goto 4, [2])]),
  (26, [0, 1, 2, 3], [(1, .iload_n 1, []), (0, .nop, [2])]),
  (27, [0, 2, 3], [(2, .istore 4, []), (1, .aload_n 0, []), (2, .bipush 8, [0, 8]), (3, .invokevirtual 146, [0, 8, 85, 2, 1, 1048]), (3, .ifCond .eq 18, [4]), (2, .iload 4, []), (2, .bipush 45, [0, 45]), (3, .if_icmp .eq 10, [3]), (2, .iload 4, []), (2, .bipush 46, [0, 46]), (3, .if_icmp .ne 4, [4]), (0, .nop, [3])]),
  (52, [], [(1, .return_, [])]),
  (53, [0, 2, 3, 4], [(1, .aload_n 0, []), (1, .iconst 4, [0, 4]), (3, .invokevirtual 146, [0, 8, 85, 2, 1, 1048]), (3, .ifCond .eq 21, [5]), (2, .iload 4, []), (2, .bipush 32, [0, 32]), (3, .if_icmp .ne 14, [5]), (1, .aload_n 0, []), (2, .bipush 12, [0, 12]), (3, .invokevirtual 112, [0, 8, 37, 2, 1, 993]), (1, .iconst 1, [0, 1]), (3, .if_icmp .ne 4, [5]), (1, .return_, [])]),
  (79, [0, 2, 3, 4], [(1, .aload_n 0, []), (2, .bipush 12, [0, 12]), (2, .iload 4, []), (2, .bipush 32, [0, 32]), (3, .if_icmp .ne 7, [6]), (1, .iconst 1, [0, 1]), (3, .goto 4, [7])]),
  (93, [0, 2, 3, 4], [(1, .iconst 0, [0, 0]), (0, .nop, [7])]),
  (94, [0, 2, 3, 4], [(3, .invokevirtual 115, [0, 8, 40, 3, 0, 989]), (1, .aload_n 0, []), (2, .iload 4, []), (1, .iload_n 2, []), (1, .iload_n 3, []), (3, .invokevirtual 149, [0, 8, 142, 4, 0, 1052]), (1, .return_, [])])]
def bk_M_define : List jx_B := [
  (0, [0, 1], [(1, .iload_n 1, []), (3, .invokestatic 95, [0, 90, 1, 1, 918]), (3, .ifCond .ne 5, [1]), (1, .iconst (-1), [1, 1]), (1, .ireturn, [0])]),
  (9, [0, 1], [(1, .aload_n 0, []), (3, .invokevirtual 99, [0, 8, 82, 1, 1, 921]), (1, .istore_n 2, []), (1, .iload_n 2, []), (2, .bipush (-9), [1, 9]), (3, .if_icmp .eq 8, [2]), (2, .bipush (-10), [1, 10]), (1, .iload_n 2, []), (1, .isub, []), (1, .ireturn, [0])]),
  (25, [0, 1], [(1, .aload_n 0, []), (3, .invokevirtual 103, [0, 8, 76, 1, 0, 925]), (1, .aload_n 0, []), (3, .getfield 7, [2, 8, 0, 851]), (2, .bipush 9, [0, 9]), (1, .iload_n 1, []), (1, .imul, []), (1, .aload_n 0, []), (3, .getfield 89, [0, 8, 3, 854]), (1, .iastore, []), (1, .iconst 0, [0, 0]), (1, .istore_n 3, []), (0, .nop, [3])]),
  (44, [0, 1, 3], [(1, .iload_n 3, []), (1, .aload_n 0, []), (3, .getfield 89, [0, 8, 3, 854]), (3, .if_icmp .ge 31, [4]), (1, .aload_n 0, []), (3, .getfield 7, [2, 8, 0, 851]), (2, .bipush 9, [0, 9]), (1, .iload_n 1, []), (1, .imul, []), (1, .iconst 1, [0, 1]), (1, .iadd, []), (1, .iload_n 3, []), (1, .iadd, []), (1, .aload_n 0, []), (3, .getfield 13, [2, 8, 2, 853]), (1, .iload_n 3, []), (1, .iaload, [0]), (2, .bipush 97, [0, 97]), (1, .isub, []), (1, .iastore, []), (3, .iinc 3 1, [0, 1]), (3, .goto (-33), [3])]),
  (80, [0], [(1, .aload_n 0, []), (3, .invokevirtual 106, [0, 8, 139, 1, 1, 933]), (1, .ireturn, [0])])]
def bk_M_forget : List jx_B := [
  (0, [0, 1], [(1, .iload_n 1, []), (3, .invokestatic 95, [0, 90, 1, 1, 918]), (3, .ifCond .ne 5, [1]), (1, .iconst (-1), [1, 1]), (1, .ireturn, [0])]),
  (9, [0, 1], [(1, .aload_n 0, []), (1, .iload_n 1, []), (3, .invokevirtual 64, [0, 8, 43, 2, 1, 819]), (3, .ifCond .ne 6, [2]), (2, .bipush (-2), [1, 2]), (1, .ireturn, [0])]),
  (20, [0, 1], [(1, .aload_n 0, []), (3, .invokevirtual 103, [0, 8, 76, 1, 0, 925]), (1, .aload_n 0, []), (3, .getfield 7, [2, 8, 0, 851]), (2, .bipush 9, [0, 9]), (1, .iload_n 1, []), (1, .imul, []), (1, .iconst 0, [0, 0]), (1, .iastore, []), (1, .aload_n 0, []), (3, .invokevirtual 106, [0, 8, 139, 1, 1, 933]), (1, .ireturn, [0])])]
def bk_M_propertyNow : List jx_B := [
  (0, [0, 1], [(1, .iload_n 1, []), (51, .tableswitch 106 0 8 #[51, 57, 63, 69, 75, 81, 87, 94, 99], [10, 1, 2, 3, 4, 5, 6, 7, 8, 9])]),
  (52, [0], [(1, .aload_n 0, []), (1, .iconst 4, [0, 4]), (3, .invokevirtual 112, [0, 8, 37, 2, 1, 993]), (1, .ireturn, [0])]),
  (58, [0], [(1, .aload_n 0, []), (1, .iconst 5, [0, 5]), (3, .invokevirtual 112, [0, 8, 37, 2, 1, 993]), (1, .ireturn, [0])]),
  (64, [0], [(1, .aload_n 0, []), (1, .iconst 0, [0, 0]), (3, .invokevirtual 188, [0, 8, 137, 2, 1, 1086]), (1, .ireturn, [0])]),
  (70, [0], [(1, .aload_n 0, []), (1, .iconst 1, [0, 1]), (3, .invokevirtual 112, [0, 8, 37, 2, 1, 993]), (1, .ireturn, [0])]),
  (76, [0], [(1, .aload_n 0, []), (1, .iconst 2, [0, 2]), (3, .invokevirtual 112, [0, 8, 37, 2, 1, 993]), (1, .ireturn, [0])]),
  (82, [0], [(1, .aload_n 0, []), (1, .iconst 3, [0, 3]), (3, .invokevirtual 112, [0, 8, 37, 2, 1, 993]), (1, .ireturn, [0])]),
  (88, [0], [(1, .aload_n 0, []), (2, .bipush 6, [0, 6]), (3, .invokevirtual 112, [0, 8, 37, 2, 1, 993]), (1, .ireturn, [0])]),
  (95, [0], [(1, .aload_n 0, []), (3, .invokevirtual 223, [0, 8, 119, 1, 1, 1114]), (1, .ireturn, [0])]),
  (100, [0], [(1, .aload_n 0, []), (2, .bipush 9, [0, 9]), (3, .invokevirtual 112, [0, 8, 37, 2, 1, 993]), (1, .ireturn, [0])]),
  (107, [0, 1], [(1, .aload_n 0, []), (2, .bipush 13, [0, 13]), (1, .iload_n 1, []), (1, .iadd, []), (2, .bipush 9, [0, 9]), (1, .isub, []), (3, .invokevirtual 112, [0, 8, 37, 2, 1, 993]), (1, .ireturn, [0])])]
def bk_T_digest : List jx_B := [
  (0, [0], [(3, .ldc2_w 215, [0, 12572, 799]), (1, .lstore_n 1, []), (1, .iconst 0, [0, 0]), (1, .istore_n 3, []), (0, .nop, [1])]),
  (6, [0, 1, 3], [(1, .iload_n 3, []), (2, .bipush 12, [0, 12]), (3, .if_icmp .ge 20, [2]), (1, .lload_n 1, []), (1, .aload_n 0, []), (1, .iload_n 3, []), (3, .invokevirtual 217, [0, 7, 101, 2, 1, 800]), (1, .i2l, []), (3, .invokestatic 220, [0, 6, 2, 2, 801]), (1, .lstore_n 1, []), (3, .iinc 3 1, [0, 1]), (3, .goto (-20), [1])]),
  (29, [0, 1], [(1, .iconst 0, [0, 0]), (1, .istore_n 3, []), (0, .nop, [3])]),
  (31, [0, 1, 3], [(1, .iload_n 3, []), (1, .aload_n 0, []), (3, .getfield 20, [2, 7, 2, 358]), (3, .getfield 77, [0, 0, 0, 104]), (3, .if_icmp .ge 37, [6]), (1, .iconst 0, [0, 0]), (2, .istore 4, []), (0, .nop, [4])]),
  (45, [0, 1, 3, 4], [(2, .iload 4, []), (1, .iconst 5, [0, 5]), (3, .if_icmp .ge 22, [5]), (1, .lload_n 1, []), (1, .aload_n 0, []), (1, .iload_n 3, []), (2, .iload 4, []), (3, .invokevirtual 224, [0, 7, 50, 3, 1, 805]), (1, .i2l, []), (3, .invokestatic 220, [0, 6, 2, 2, 801]), (1, .lstore_n 1, []), (3, .iinc 4 1, [0, 1]), (3, .goto (-22), [4])]),
  (70, [0, 1, 3], [(3, .iinc 3 1, [0, 1]), (3, .goto (-42), [3])]),
  (76, [0, 1], [(1, .iconst 0, [0, 0]), (1, .istore_n 3, []), (0, .nop, [7])]),
  (78, [0, 1, 3], [(1, .iload_n 3, []), (1, .aload_n 0, []), (3, .getfield 32, [2, 7, 3, 359]), (3, .getfield 151, [0, 5, 4, 337]), (3, .if_icmp .ge 28, [8]), (1, .iload_n 3, []), (1, .iconst 4, [0, 4]), (3, .if_icmp .ge 23, [8]), (1, .lload_n 1, []), (1, .aload_n 0, []), (3, .getfield 32, [2, 7, 3, 359]), (3, .getfield 143, [2, 5, 3, 335]), (1, .iload_n 3, []), (1, .aaload, [2]), (3, .invokestatic 226, [0, 145, 2, 2, 806]), (1, .lstore_n 1, []), (3, .iinc 3 1, [0, 1]), (3, .goto (-33), [7])]),
  (114, [0, 1], [(1, .aload_n 0, []), (3, .getfield 32, [2, 7, 3, 359]), (3, .getfield 136, [2, 5, 2, 333]), (3, .invokevirtual 185, [0, 1, 60, 1, 1, 764]), (1, .istore_n 3, []), (1, .iconst 0, [0, 0]), (2, .istore 4, []), (0, .nop, [9])]),
  (128, [0, 1, 3, 4], [(2, .iload 4, []), (1, .iload_n 3, []), (3, .if_icmp .ge 44, [12]), (1, .iconst 0, [0, 0]), (2, .istore 5, []), (0, .nop, [10])]),
  (137, [0, 1, 3, 4, 5], [(2, .iload 5, []), (1, .iconst 4, [0, 4]), (3, .if_icmp .ge 29, [11]), (1, .lload_n 1, []), (1, .aload_n 0, []), (3, .getfield 32, [2, 7, 3, 359]), (3, .getfield 136, [2, 5, 2, 333]), (2, .iload 4, []), (2, .iload 5, []), (3, .invokevirtual 180, [0, 1, 105, 3, 1, 745]), (1, .i2l, []), (3, .invokestatic 220, [0, 6, 2, 2, 801]), (1, .lstore_n 1, []), (3, .iinc 5 1, [0, 1]), (3, .goto (-29), [10])]),
  (169, [0, 1, 3, 4], [(3, .iinc 4 1, [0, 1]), (3, .goto (-44), [9])]),
  (175, [1], [(1, .lload_n 1, []), (1, .lreturn, [])])]
def bk_Fl_accept : List jx_B := [
  (0, [0, 1, 2, 3, 4], [(1, .aload_n 0, []), (1, .dup, []), (3, .getfield 52, [0, 2, 7, 298]), (1, .iconst 1, [0, 1]), (1, .iadd, []), (3, .putfield 52, [0, 2, 7, 298]), (1, .aload_n 0, []), (3, .getfield 20, [2, 2, 5, 294]), (1, .aload_n 1, []), (1, .iload_n 2, []), (1, .iload_n 3, []), (2, .iload 4, []), (3, .invokevirtual 74, [0, 4, 111, 5, 0, 585]), (2, .iload 4, []), (1, .iload_n 3, []), (1, .iadd, []), (1, .aload_n 0, []), (3, .getfield 42, [0, 2, 3, 290]), (3, .if_icmp .gt 14, [1]), (1, .aload_n 0, []), (1, .dup, []), (3, .getfield 55, [0, 2, 8, 299]), (1, .iconst 1, [0, 1]), (1, .iadd, []), (3, .putfield 55, [0, 2, 8, 299]), (1, .return_, [])]),
  (44, [0, 1, 2, 3, 4], [(1, .aload_n 0, []), (3, .getfield 14, [2, 2, 4, 292]), (1, .aload_n 1, []), (1, .iload_n 2, []), (1, .iload_n 3, []), (2, .iload 4, []), (3, .invokevirtual 74, [0, 4, 111, 5, 0, 585]), (1, .aload_n 0, []), (3, .invokevirtual 78, [0, 2, 150, 1, 0, 586]), (1, .iconst 0, [0, 0]), (2, .istore 5, []), (0, .nop, [2])]),
  (63, [0, 5], [(2, .iload 5, []), (2, .bipush 6, [0, 6]), (3, .if_icmp .ge 35, [3]), (1, .aload_n 0, []), (3, .getfield 14, [2, 2, 4, 292]), (1, .aload_n 0, []), (3, .getfield 42, [0, 2, 3, 290]), (3, .invokevirtual 81, [0, 4, 112, 2, 1, 658]), (1, .aload_n 0, []), (3, .getfield 39, [0, 2, 2, 288]), (3, .if_icmp .le 17, [3]), (1, .aload_n 0, []), (3, .invokevirtual 85, [0, 2, 151, 1, 0, 669]), (1, .aload_n 0, []), (3, .invokevirtual 78, [0, 2, 150, 1, 0, 586]), (3, .iinc 5 1, [0, 1]), (3, .goto (-36), [2])]),
  (102, [], [(1, .return_, [])])]
def bk_St_copyFrom : List jx_B := [
  (0, [0, 1], [(1, .aload_n 0, []), (3, .getfield 12, [2, 5, 0, 328]), (1, .aload_n 1, []), (3, .getfield 12, [2, 5, 0, 328]), (3, .invokevirtual 42, [0, 6, 73, 2, 0, 415]), (1, .aload_n 1, []), (3, .getfield 18, [2, 5, 1, 330]), (1, .iconst 0, [0, 0]), (1, .aload_n 0, []), (3, .getfield 18, [2, 5, 1, 330]), (1, .iconst 0, [0, 0]), (1, .iconst 3, [0, 3]), (3, .invokestatic 46, [2, 422, 421, 420, 84]), (1, .aload_n 0, []), (3, .getfield 35, [2, 5, 2, 332]), (1, .aload_n 1, []), (3, .getfield 35, [2, 5, 2, 332]), (3, .invokevirtual 52, [0, 1, 59, 2, 0, 423]), (1, .aload_n 0, []), (1, .aload_n 1, []), (3, .getfield 28, [0, 5, 4, 336]), (3, .putfield 28, [0, 5, 4, 336]), (1, .iconst 0, [0, 0]), (1, .istore_n 2, []), (0, .nop, [1])]),
  (46, [0, 1, 2], [(1, .iload_n 2, []), (1, .aload_n 0, []), (3, .getfield 28, [0, 5, 4, 336]), (3, .if_icmp .ge 29, [2]), (1, .iload_n 2, []), (1, .iconst 4, [0, 4]), (3, .if_icmp .ge 24, [2]), (1, .aload_n 0, []), (3, .getfield 24, [2, 5, 3, 334]), (1, .iload_n 2, []), (1, .aaload, [2]), (1, .aload_n 1, []), (3, .getfield 24, [2, 5, 3, 334]), (1, .iload_n 2, []), (1, .aaload, [2]), (3, .invokevirtual 57, [0, 2, 149, 2, 0, 428]), (3, .iinc 2 1, [0, 1]), (3, .goto (-31), [1])]),
  (80, [0, 1], [(1, .aload_n 0, []), (1, .aload_n 1, []), (3, .getfield 32, [0, 5, 5, 338]), (3, .putfield 32, [0, 5, 5, 338]), (1, .return_, [])])]
def bk_M_lets : List jx_B := [
  (0, [0], [(1, .aload_n 0, []), (2, .bipush 9, [0, 9]), (3, .invokevirtual 112, [0, 8, 37, 2, 1, 993]), (1, .istore_n 1, []), (1, .aload_n 0, []), (2, .bipush 9, [0, 9]), (1, .iconst 0, [0, 0]), (3, .invokevirtual 115, [0, 8, 40, 3, 0, 989]), (1, .iload_n 1, []), (3, .ifCond .le 23, [1]), (1, .aload_n 0, []), (2, .bipush 37, [0, 37]), (1, .aload_n 0, []), (2, .bipush 10, [0, 10]), (3, .invokevirtual 112, [0, 8, 37, 2, 1, 993]), (1, .aload_n 0, []), (2, .bipush 10, [0, 10]), (3, .invokevirtual 112, [0, 8, 37, 2, 1, 993]), (1, .iconst 1, [0, 1]), (1, .iadd, []), (3, .invokevirtual 152, [0, 8, 153, 4, 0, 1044]), (0, .nop, [1])]),
  (38, [0, 1], [(1, .iload_n 1, []), (1, .iconst 1, [0, 1]), (3, .if_icmp .le 29, [2]), (1, .aload_n 0, []), (1, .aload_n 0, []), (2, .bipush 11, [0, 11]), (3, .invokevirtual 112, [0, 8, 37, 2, 1, 993]), (1, .aload_n 0, []), (2, .bipush 10, [0, 10]), (3, .invokevirtual 112, [0, 8, 37, 2, 1, 993]), (1, .iconst 1, [0, 1]), (1, .iadd, []), (1, .aload_n 0, []), (2, .bipush 10, [0, 10]), (3, .invokevirtual 112, [0, 8, 37, 2, 1, 993]), (1, .iconst 2, [0, 2]), (1, .iadd, []), (3, .invokevirtual 152, [0, 8, 153, 4, 0, 1044]), (0, .nop, [2])]),
  (69, [], [(1, .return_, [])])]
def bk_M_mixedFlow : List jx_B := [
  (0, [0, 1, 3], [(1, .aload_n 0, []), (1, .aload_n 0, []), (1, .iload_n 3, []), (3, .invokevirtual 92, [0, 8, 41, 2, 1, 937]), (3, .putfield 109, [0, 8, 12, 863]), (3, .ldc2_w 245, [0, 31, 1183]), (1, .lload_n 1, []), (1, .lmul, []), (1, .aload_n 0, []), (1, .iconst 0, [0, 0]), (3, .invokevirtual 112, [0, 8, 37, 2, 1, 993]), (1, .i2l, []), (1, .ladd, []), (2, .lstore 4, []), (1, .iconst 0, [0, 0]), (2, .istore 6, []), (0, .nop, [1])]),
  (26, [0, 4, 6], [(2, .iload 6, []), (2, .bipush 17, [0, 17]), (3, .if_icmp .gt 25, [2]), (3, .ldc2_w 245, [0, 31, 1183]), (2, .lload 4, []), (1, .lmul, []), (1, .aload_n 0, []), (2, .iload 6, []), (3, .invokevirtual 226, [0, 8, 156, 2, 1, 1110]), (1, .i2l, []), (1, .ladd, []), (2, .lstore 4, []), (3, .iinc 6 1, [0, 1]), (3, .goto (-26), [1])]),
  (55, [0, 4], [(3, .ldc2_w 245, [0, 31, 1183]), (2, .lload 4, []), (1, .lmul, []), (1, .aload_n 0, []), (3, .invokevirtual 232, [0, 8, 96, 1, 2, 1130]), (1, .ladd, []), (2, .lstore 4, []), (1, .iconst 0, [0, 0]), (2, .istore 6, []), (0, .nop, [3])]),
  (71, [0, 4, 6], [(2, .iload 6, []), (2, .bipush 7, [0, 7]), (3, .if_icmp .gt 25, [4]), (3, .ldc2_w 245, [0, 31, 1183]), (2, .lload 4, []), (1, .lmul, []), (1, .aload_n 0, []), (2, .iload 6, []), (3, .invokevirtual 236, [0, 8, 97, 2, 1, 1138]), (1, .i2l, []), (1, .ladd, []), (2, .lstore 4, []), (3, .iinc 6 1, [0, 1]), (3, .goto (-26), [3])]),
  (100, [0, 4], [(1, .iconst 0, [0, 0]), (2, .istore 6, []), (0, .nop, [5])]),
  (103, [0, 4, 6], [(2, .iload 6, []), (2, .bipush 50, [0, 50]), (3, .if_icmp .ge 31, [6]), (3, .ldc2_w 245, [0, 31, 1183]), (2, .lload 4, []), (1, .lmul, []), (1, .aload_n 0, []), (1, .aload_n 0, []), (1, .iconst 4, [0, 4]), (3, .invokevirtual 112, [0, 8, 37, 2, 1, 993]), (2, .iload 6, []), (1, .iadd, []), (3, .invokevirtual 229, [0, 8, 136, 2, 1, 1122]), (1, .i2l, []), (1, .ladd, []), (2, .lstore 4, []), (3, .iinc 6 1, [0, 1]), (3, .goto (-32), [5])]),
  (138, [4], [(2, .lload 4, []), (1, .lreturn, [])])]
def bk_M_property : List jx_B := [
  (0, [0, 1, 2], [(1, .iload_n 2, []), (1, .iconst 0, [0, 0]), (2, .bipush 17, [0, 17]), (3, .invokestatic 85, [0, 32, 3, 1, 907]), (3, .ifCond .eq 11, [1]), (1, .aload_n 0, []), (1, .iload_n 1, []), (3, .invokevirtual 220, [0, 8, 114, 2, 1, 1098]), (3, .goto 4, [2])]),
  (18, [0, 2], [(1, .iconst (-1), [1, 1]), (0, .nop, [2])]),
  (19, [0, 2], [(1, .istore_n 3, []), (1, .iload_n 3, []), (3, .ifCond .ge 5, [3]), (1, .iload_n 3, []), (1, .ireturn, [0])]),
  (26, [0, 2, 3], [(1, .aload_n 0, []), (1, .aload_n 0, []), (1, .iload_n 3, []), (3, .invokevirtual 92, [0, 8, 41, 2, 1, 937]), (3, .putfield 109, [0, 8, 12, 863]), (1, .aload_n 0, []), (1, .iload_n 2, []), (3, .invokevirtual 226, [0, 8, 156, 2, 1, 1110]), (1, .ireturn, [0])])]
def bk_T_handled : List jx_B := [
  (0, [0, 1, 2, 3], [(1, .aload_n 1, []), (3, .getfield 136, [2, 5, 2, 333]), (3, .invokevirtual 140, [0, 1, 13, 1, 1, 555]), (2, .istore 4, []), (1, .aload_n 1, []), (1, .iload_n 2, []), (3, .invokevirtual 251, [0, 5, 134, 2, 3, 559]), (1, .aload_n 0, []), (3, .getfield 9, [2, 7, 0, 356]), (1, .iconst 0, [0, 0]), (1, .aload_n 0, []), (3, .getfield 13, [0, 7, 1, 357]), (1, .iload_n 3, []), (3, .invokevirtual 255, [0, 2, 158, 5, 0, 581]), (1, .aload_n 1, []), (3, .getfield 136, [2, 5, 2, 333]), (3, .invokevirtual 140, [0, 1, 13, 1, 1, 555]), (2, .iload 4, []), (1, .isub, []), (1, .ireturn, [0])])]
def bk_T_record : List jx_B := [
  (0, [0], [(1, .aload_n 0, []), (3, .getfield 50, [0, 7, 7, 363]), (1, .iconst 4, [0, 4]), (3, .if_icmp .lt 7, [1]), (1, .aload_n 0, []), (3, .invokevirtual 285, [0, 7, 1, 1, 0, 407]), (0, .nop, [1])]),
  (12, [0], [(1, .aload_n 0, []), (3, .getfield 46, [2, 7, 6, 362]), (1, .aload_n 0, []), (3, .getfield 50, [0, 7, 7, 363]), (1, .aaload, [5]), (1, .aload_n 0, []), (3, .getfield 32, [2, 7, 3, 359]), (3, .invokevirtual 197, [0, 5, 159, 2, 0, 411]), (1, .aload_n 0, []), (1, .dup, []), (3, .getfield 50, [0, 7, 7, 363]), (1, .iconst 1, [0, 1]), (1, .iadd, []), (3, .putfield 50, [0, 7, 7, 363]), (1, .return_, [])])]
def bk_T_wordsBy : List jx_B := [
  (0, [0, 1, 2], [(1, .aload_n 0, []), (3, .getfield 42, [2, 7, 5, 361]), (1, .aload_n 1, []), (3, .getfield 154, [0, 2, 0, 286]), (1, .iload_n 2, []), (1, .aload_n 1, []), (3, .getfield 167, [2, 2, 6, 297]), (3, .getfield 259, [0, 3, 3, 232]), (1, .aload_n 1, []), (3, .getfield 262, [0, 2, 2, 289]), (3, .invokevirtual 265, [0, 2, 107, 5, 0, 777]), (1, .aload_n 1, []), (3, .getfield 269, [2, 2, 5, 295]), (1, .astore_n 3, []), (1, .iconst 0, [0, 0]), (2, .istore 4, []), (0, .nop, [1])]),
  (31, [0, 3, 4], [(2, .iload 4, []), (1, .aload_n 3, []), (3, .getfield 272, [0, 4, 0, 203]), (3, .if_icmp .ge 46, [2]), (2, .iload 4, []), (2, .bipush 10, [0, 10]), (3, .if_icmp .ge 39, [2]), (1, .aload_n 0, []), (3, .getfield 42, [2, 7, 5, 361]), (1, .aload_n 3, []), (3, .getfield 275, [2, 4, 3, 211]), (2, .iload 4, []), (2, .bipush 40, [0, 40]), (1, .imul, []), (1, .aload_n 3, []), (3, .getfield 278, [2, 4, 2, 209]), (2, .iload 4, []), (1, .iaload, [0]), (1, .aload_n 3, []), (3, .getfield 279, [2, 4, 1, 206]), (2, .iload 4, []), (1, .iaload, [0]), (3, .invokevirtual 255, [0, 2, 158, 5, 0, 581]), (3, .iinc 4 1, [0, 1]), (3, .goto (-49), [1])]),
  (83, [0], [(1, .aload_n 0, []), (3, .getfield 42, [2, 7, 5, 361]), (3, .getfield 167, [2, 2, 6, 297]), (3, .getfield 282, [0, 3, 14, 252]), (1, .ireturn, [0])])]
def bk_M_delivers : List jx_B := [
  (0, [0, 1, 2], [(1, .iload_n 1, []), (3, .invokestatic 155, [0, 86, 1, 1, 1041]), (1, .istore_n 3, []), (1, .aload_n 0, []), (2, .bipush 9, [0, 9]), (3, .invokevirtual 112, [0, 8, 37, 2, 1, 993]), (1, .iconst 2, [0, 2]), (3, .if_icmp .ne 47, [1]), (1, .iload_n 3, []), (2, .bipush (-9), [1, 9]), (3, .if_icmp .eq 41, [1]), (1, .aload_n 0, []), (2, .bipush 9, [0, 9]), (1, .iconst 0, [0, 0]), (3, .invokevirtual 115, [0, 8, 40, 3, 0, 989]), (1, .aload_n 0, []), (2, .bipush 16, [0, 16]), (1, .aload_n 0, []), (2, .bipush 11, [0, 11]), (3, .invokevirtual 112, [0, 8, 37, 2, 1, 993]), (3, .invokestatic 155, [0, 86, 1, 1, 1041]), (1, .imul, []), (1, .iload_n 3, []), (1, .iadd, []), (2, .bipush 127, [0, 127]), (1, .iand, []), (1, .aload_n 0, []), (2, .bipush 10, [0, 10]), (3, .invokevirtual 112, [0, 8, 37, 2, 1, 993]), (1, .iload_n 2, []), (1, .iconst 1, [0, 1]), (1, .iadd, []), (3, .invokevirtual 152, [0, 8, 153, 4, 0, 1044]), (1, .return_, [])]),
  (59, [0, 1, 2, 3], [(1, .aload_n 0, []), (2, .bipush 9, [0, 9]), (3, .invokevirtual 112, [0, 8, 37, 2, 1, 993]), (1, .iconst 1, [0, 1]), (3, .if_icmp .ne 24, [2]), (1, .iload_n 3, []), (2, .bipush (-9), [1, 9]), (3, .if_icmp .eq 18, [2]), (1, .aload_n 0, []), (2, .bipush 9, [0, 9]), (1, .iconst 2, [0, 2]), (3, .invokevirtual 115, [0, 8, 40, 3, 0, 989]), (1, .aload_n 0, []), (2, .bipush 11, [0, 11]), (1, .iload_n 1, []), (3, .invokevirtual 115, [0, 8, 40, 3, 0, 989]), (1, .return_, [])]),
  (90, [0, 1, 2], [(1, .aload_n 0, []), (3, .invokevirtual 158, [0, 8, 160, 1, 0, 1078]), (1, .aload_n 0, []), (1, .iconst 2, [0, 2]), (3, .invokevirtual 146, [0, 8, 85, 2, 1, 1048]), (3, .ifCond .eq 26, [3]), (1, .iload_n 1, []), (2, .bipush 37, [0, 37]), (3, .if_icmp .ne 20, [3]), (1, .aload_n 0, []), (2, .bipush 9, [0, 9]), (1, .iconst 1, [0, 1]), (3, .invokevirtual 115, [0, 8, 40, 3, 0, 989]), (1, .aload_n 0, []), (2, .bipush 10, [0, 10]), (1, .iload_n 2, []), (3, .invokevirtual 115, [0, 8, 40, 3, 0, 989]), (3, .goto 12, [4])]),
  (125, [0, 1, 2], [(1, .aload_n 0, []), (1, .iload_n 1, []), (1, .iload_n 2, []), (1, .iload_n 2, []), (1, .iconst 1, [0, 1]), (1, .iadd, []), (3, .invokevirtual 152, [0, 8, 153, 4, 0, 1044]), (0, .nop, [4])]),
  (134, [], [(1, .return_, [])])]
def bk_M_digest : List jx_B := [
  (0, [0], [(3, .ldc2_w 247, [0, 12572, 1182]), (1, .lstore_n 1, []), (1, .iconst 0, [0, 0]), (1, .istore_n 3, []), (0, .nop, [1])]),
  (6, [0, 1, 3], [(1, .iload_n 3, []), (2, .bipush 11, [0, 11]), (3, .if_icmp .gt 22, [2]), (3, .ldc2_w 245, [0, 31, 1183]), (1, .lload_n 1, []), (1, .lmul, []), (1, .aload_n 0, []), (1, .iload_n 3, []), (3, .invokevirtual 249, [0, 8, 122, 2, 1, 1184]), (1, .i2l, []), (1, .ladd, []), (1, .lstore_n 1, []), (3, .iinc 3 1, [0, 1]), (3, .goto (-22), [1])]),
  (31, [0, 1], [(1, .iconst 0, [0, 0]), (1, .istore_n 3, []), (0, .nop, [3])]),
  (33, [0, 1, 3], [(1, .iload_n 3, []), (1, .aload_n 0, []), (3, .getfield 54, [0, 8, 4, 855]), (3, .if_icmp .ge 39, [6]), (1, .iconst 0, [0, 0]), (2, .istore 4, []), (0, .nop, [4])]),
  (44, [0, 1, 3, 4], [(2, .iload 4, []), (1, .iconst 4, [0, 4]), (3, .if_icmp .gt 24, [5]), (3, .ldc2_w 245, [0, 31, 1183]), (1, .lload_n 1, []), (1, .lmul, []), (1, .aload_n 0, []), (1, .iload_n 3, []), (2, .iload 4, []), (3, .invokevirtual 252, [0, 8, 94, 3, 1, 1185]), (1, .i2l, []), (1, .ladd, []), (1, .lstore_n 1, []), (3, .iinc 4 1, [0, 1]), (3, .goto (-24), [4])]),
  (71, [0, 1, 3], [(3, .iinc 3 1, [0, 1]), (3, .goto (-41), [3])]),
  (77, [0, 1], [(1, .iconst 0, [0, 0]), (1, .istore_n 3, []), (0, .nop, [7])]),
  (79, [0, 1, 3], [(1, .iload_n 3, []), (1, .aload_n 0, []), (3, .getfield 7, [2, 8, 0, 851]), (2, .bipush 57, [0, 57]), (1, .iaload, [0]), (3, .if_icmp .ge 16, [8]), (1, .aload_n 0, []), (1, .lload_n 1, []), (1, .iload_n 3, []), (3, .invokevirtual 255, [0, 8, 161, 3, 2, 1186]), (1, .lstore_n 1, []), (3, .iinc 3 1, [0, 1]), (3, .goto (-21), [7])]),
  (103, [0, 1], [(1, .iconst 0, [0, 0]), (1, .istore_n 3, []), (0, .nop, [9])]),
  (105, [0, 1, 3], [(1, .iload_n 3, []), (1, .aload_n 0, []), (3, .getfield 7, [2, 8, 0, 851]), (2, .bipush 62, [0, 62]), (1, .iaload, [0]), (3, .if_icmp .ge 39, [12]), (1, .iconst 0, [0, 0]), (2, .istore 4, []), (0, .nop, [10])]),
  (119, [0, 1, 3, 4], [(2, .iload 4, []), (1, .iconst 3, [0, 3]), (3, .if_icmp .gt 24, [11]), (3, .ldc2_w 245, [0, 31, 1183]), (1, .lload_n 1, []), (1, .lmul, []), (1, .aload_n 0, []), (1, .iload_n 3, []), (2, .iload 4, []), (3, .invokevirtual 259, [0, 8, 83, 3, 1, 1190]), (1, .i2l, []), (1, .ladd, []), (1, .lstore_n 1, []), (3, .iinc 4 1, [0, 1]), (3, .goto (-24), [10])]),
  (146, [0, 1, 3], [(3, .iinc 3 1, [0, 1]), (3, .goto (-44), [9])]),
  (152, [1], [(1, .lload_n 1, []), (1, .lreturn, [])])]
def bk_M_finish : List jx_B := [
  (0, [0, 1], [(1, .aload_n 0, []), (1, .iload_n 1, []), (3, .invokevirtual 220, [0, 8, 114, 2, 1, 1098]), (1, .istore_n 2, []), (1, .iload_n 2, []), (3, .ifCond .ge 5, [1]), (1, .iload_n 2, []), (1, .ireturn, [0])]),
  (12, [0, 2], [(1, .aload_n 0, []), (3, .invokevirtual 103, [0, 8, 76, 1, 0, 925]), (1, .aload_n 0, []), (1, .aload_n 0, []), (1, .iload_n 2, []), (3, .invokevirtual 92, [0, 8, 41, 2, 1, 937]), (3, .putfield 109, [0, 8, 12, 863]), (1, .aload_n 0, []), (1, .iconst 0, [0, 0]), (3, .putfield 118, [0, 8, 13, 864]), (1, .aload_n 0, []), (3, .invokevirtual 158, [0, 8, 160, 1, 0, 1078]), (1, .aload_n 0, []), (1, .iload_n 2, []), (3, .invokevirtual 198, [0, 8, 33, 2, 0, 977]), (1, .aload_n 0, []), (3, .getfield 118, [0, 8, 13, 864]), (1, .ireturn, [0])])]
def bk_M_gap : List jx_B := [
  (0, [0, 1], [(1, .iload_n 1, []), (1, .aload_n 0, []), (1, .iconst 4, [0, 4]), (3, .invokevirtual 112, [0, 8, 37, 2, 1, 993]), (1, .isub, []), (1, .istore_n 2, []), (1, .aload_n 0, []), (2, .bipush 16, [0, 16]), (1, .iconst 1, [0, 1]), (3, .invokevirtual 121, [0, 8, 27, 3, 0, 997]), (1, .aload_n 0, []), (2, .bipush 17, [0, 17]), (1, .iload_n 2, []), (3, .invokevirtual 121, [0, 8, 27, 3, 0, 997]), (1, .aload_n 0, []), (3, .invokevirtual 158, [0, 8, 160, 1, 0, 1078]), (1, .aload_n 0, []), (2, .bipush 12, [0, 12]), (1, .iconst 0, [0, 0]), (3, .invokevirtual 115, [0, 8, 40, 3, 0, 989]), (1, .aload_n 0, []), (2, .bipush 6, [0, 6]), (1, .iconst 0, [0, 0]), (3, .invokevirtual 115, [0, 8, 40, 3, 0, 989]), (1, .aload_n 0, []), (1, .iconst 4, [0, 4]), (1, .iload_n 1, []), (3, .invokevirtual 115, [0, 8, 40, 3, 0, 989]), (1, .iconst 1, [0, 1]), (1, .istore_n 3, []), (1, .iconst 0, [0, 0]), (2, .istore 4, []), (0, .nop, [1])]),
  (51, [0, 2, 3, 4], [(2, .iload 4, []), (1, .iload_n 2, []), (3, .if_icmp .ge 152, [9]), (1, .iload_n 3, []), (3, .ifCond .eq 148, [9]), (1, .aload_n 0, []), (2, .bipush 7, [0, 7]), (3, .invokevirtual 112, [0, 8, 37, 2, 1, 993]), (1, .iconst 1, [0, 1]), (1, .ior, []), (2, .istore 5, []), (1, .aload_n 0, []), (2, .bipush 8, [0, 8]), (3, .invokevirtual 112, [0, 8, 37, 2, 1, 993]), (2, .istore 6, []), (1, .iconst 0, [0, 0]), (2, .istore 7, []), (0, .nop, [2])]),
  (82, [0, 2, 4, 5, 6, 7], [(2, .iload 7, []), (1, .aload_n 0, []), (3, .getfield 54, [0, 8, 4, 855]), (3, .if_icmp .ge 76, [5]), (1, .iconst 0, [0, 0]), (2, .istore 8, []), (0, .nop, [3])]),
  (94, [0, 2, 4, 5, 6, 7, 8], [(2, .iload 8, []), (2, .bipush 26, [0, 26]), (3, .if_icmp .ge 60, [4]), (1, .aload_n 0, []), (2, .iload 7, []), (3, .invokevirtual 127, [0, 8, 89, 2, 1, 1060]), (3, .ifCond .eq 51, [4]), (2, .iload 5, []), (1, .aload_n 0, []), (3, .getfield 31, [2, 8, 10, 861]), (2, .bipush 26, [0, 26]), (2, .iload 7, []), (1, .imul, []), (2, .iload 8, []), (1, .iadd, []), (1, .iaload, [0]), (3, .invokestatic 130, [0, 35, 1, 1, 1064]), (1, .ior, []), (2, .istore 5, []), (2, .iload 6, []), (1, .aload_n 0, []), (3, .getfield 31, [2, 8, 10, 861]), (2, .bipush 26, [0, 26]), (2, .iload 7, []), (1, .imul, []), (2, .iload 8, []), (1, .iadd, []), (1, .iaload, [0]), (3, .invokestatic 133, [0, 31, 1, 1, 1067]), (1, .ior, []), (2, .istore 6, []), (3, .iinc 8 1, [0, 1]), (3, .goto (-61), [3])]),
  (158, [0, 2, 4, 5, 6, 7], [(3, .iinc 7 1, [0, 1]), (3, .goto (-79), [2])]),
  (164, [0, 2, 4, 5, 6], [(2, .iload 5, []), (1, .aload_n 0, []), (2, .bipush 7, [0, 7]), (3, .invokevirtual 112, [0, 8, 37, 2, 1, 993]), (3, .if_icmp .ne 14, [6]), (2, .iload 6, []), (1, .aload_n 0, []), (2, .bipush 8, [0, 8]), (3, .invokevirtual 112, [0, 8, 37, 2, 1, 993]), (3, .if_icmp .eq 7, [7]), (0, .nop, [6])]),
  (186, [0, 2, 4, 5, 6], [(1, .iconst 1, [0, 1]), (3, .goto 4, [8])]),
  (190, [0, 2, 4, 5, 6], [(1, .iconst 0, [0, 0]), (0, .nop, [8])]),
  (191, [0, 2, 4, 5, 6], [(1, .istore_n 3, []), (1, .aload_n 0, []), (2, .iload 5, []), (2, .iload 6, []), (3, .invokevirtual 136, [0, 8, 91, 3, 0, 1070]), (3, .iinc 4 1, [0, 1]), (3, .goto (-152), [1])]),
  (206, [], [(1, .return_, [])])]
def bk_T_define : List jx_B := [
  (0, [0, 1], [(1, .iload_n 1, []), (3, .invokestatic 53, [0, 5, 1, 1, 393]), (3, .ifCond .ne 5, [1]), (1, .iconst (-1), [1, 1]), (1, .ireturn, [0])]),
  (9, [0, 1], [(1, .aload_n 0, []), (3, .invokevirtual 57, [0, 7, 47, 1, 1, 396]), (1, .istore_n 2, []), (1, .iload_n 2, []), (1, .iconst (-1), [1, 1]), (3, .if_icmp .eq 8, [2]), (2, .bipush (-10), [1, 10]), (1, .iload_n 2, []), (1, .isub, []), (1, .ireturn, [0])]),
  (24, [0, 1], [(1, .aload_n 0, []), (3, .invokevirtual 61, [0, 7, 164, 1, 0, 403]), (1, .aload_n 0, []), (3, .getfield 32, [2, 7, 3, 359]), (3, .getfield 64, [2, 5, 0, 329]), (1, .iload_n 1, []), (1, .aload_n 0, []), (3, .getfield 9, [2, 7, 0, 356]), (1, .aload_n 0, []), (3, .getfield 13, [0, 7, 1, 357]), (3, .invokevirtual 68, [0, 6, 75, 4, 0, 454]), (1, .aload_n 0, []), (3, .invokevirtual 74, [0, 7, 148, 1, 0, 461]), (1, .aload_n 0, []), (3, .getfield 20, [2, 7, 2, 358]), (3, .getfield 77, [0, 0, 0, 104]), (1, .ireturn, [0])])]
def bk_T_evasions : List jx_B := [
  (0, [0, 1], [(1, .iload_n 1, []), (3, .invokestatic 129, [0, 3, 1, 1, 543]), (3, .ifCond .ne 5, [1]), (1, .iconst (-1), [1, 1]), (1, .ireturn, [0])]),
  (9, [0, 1], [(1, .aload_n 0, []), (3, .getfield 32, [2, 7, 3, 359]), (1, .iload_n 1, []), (3, .invokevirtual 132, [0, 5, 23, 2, 1, 546]), (1, .istore_n 2, []), (1, .iload_n 2, []), (1, .iconst (-1), [1, 1]), (3, .if_icmp .ne 6, [2]), (2, .bipush (-2), [1, 2]), (1, .ireturn, [0])]),
  (26, [0, 2], [(1, .iconst 0, [0, 0]), (1, .istore_n 3, []), (2, .bipush 63, [0, 63]), (2, .istore 4, []), (1, .iconst 0, [0, 0]), (2, .istore 5, []), (0, .nop, [3])]),
  (35, [0, 2, 3, 4, 5], [(2, .iload 5, []), (1, .iconst 4, [0, 4]), (3, .if_icmp .ge 38, [4]), (1, .aload_n 0, []), (1, .aload_n 0, []), (3, .getfield 32, [2, 7, 3, 359]), (3, .getfield 143, [2, 5, 3, 335]), (1, .iload_n 2, []), (1, .aaload, [2]), (2, .iload 5, []), (3, .invokevirtual 201, [0, 7, 165, 3, 1, 773]), (2, .istore 6, []), (1, .iload_n 3, []), (2, .iload 6, []), (1, .ior, []), (1, .istore_n 3, []), (2, .iload 4, []), (2, .iload 6, []), (1, .iand, []), (2, .istore 4, []), (3, .iinc 5 1, [0, 1]), (3, .goto (-38), [3])]),
  (76, [3, 4], [(1, .iload_n 3, []), (2, .iload 4, []), (1, .iconst (-1), [1, 1]), (1, .ixor, []), (1, .iand, []), (1, .ireturn, [0])])]
def bk_T_finish : List jx_B := [
  (0, [0, 1], [(1, .iload_n 1, []), (3, .invokestatic 129, [0, 3, 1, 1, 543]), (3, .ifCond .ne 5, [1]), (1, .iconst (-1), [1, 1]), (1, .ireturn, [0])]),
  (9, [0, 1], [(1, .aload_n 0, []), (3, .getfield 32, [2, 7, 3, 359]), (1, .iload_n 1, []), (3, .invokevirtual 132, [0, 5, 23, 2, 1, 546]), (1, .istore_n 2, []), (1, .iload_n 2, []), (1, .iconst (-1), [1, 1]), (3, .if_icmp .ne 6, [2]), (2, .bipush (-2), [1, 2]), (1, .ireturn, [0])]),
  (26, [0, 2], [(1, .aload_n 0, []), (3, .invokevirtual 61, [0, 7, 164, 1, 0, 403]), (1, .aload_n 0, []), (3, .getfield 32, [2, 7, 3, 359]), (3, .getfield 136, [2, 5, 2, 333]), (3, .invokevirtual 140, [0, 1, 13, 1, 1, 555]), (1, .istore_n 3, []), (1, .aload_n 0, []), (3, .getfield 32, [2, 7, 3, 359]), (3, .getfield 143, [2, 5, 3, 335]), (1, .iload_n 2, []), (1, .aaload, [2]), (3, .invokevirtual 147, [0, 2, 128, 1, 0, 695]), (1, .aload_n 0, []), (3, .getfield 32, [2, 7, 3, 359]), (1, .iload_n 2, []), (3, .invokevirtual 150, [0, 5, 71, 2, 0, 700]), (1, .aload_n 0, []), (3, .getfield 32, [2, 7, 3, 359]), (3, .getfield 136, [2, 5, 2, 333]), (3, .invokevirtual 140, [0, 1, 13, 1, 1, 555]), (1, .iload_n 3, []), (1, .isub, []), (1, .ireturn, [0])])]
def bk_T_forget : List jx_B := [
  (0, [0, 1], [(1, .iload_n 1, []), (3, .invokestatic 53, [0, 5, 1, 1, 393]), (3, .ifCond .ne 5, [1]), (1, .iconst (-1), [1, 1]), (1, .ireturn, [0])]),
  (9, [0, 1], [(1, .aload_n 0, []), (3, .getfield 32, [2, 7, 3, 359]), (3, .getfield 64, [2, 5, 0, 329]), (1, .iload_n 1, []), (3, .invokevirtual 80, [0, 6, 24, 2, 1, 501]), (3, .ifCond .ne 6, [2]), (2, .bipush (-2), [1, 2]), (1, .ireturn, [0])]),
  (26, [0, 1], [(1, .aload_n 0, []), (3, .invokevirtual 61, [0, 7, 164, 1, 0, 403]), (1, .aload_n 0, []), (3, .getfield 32, [2, 7, 3, 359]), (3, .getfield 64, [2, 5, 0, 329]), (1, .iload_n 1, []), (3, .invokevirtual 83, [0, 6, 26, 2, 0, 505]), (1, .aload_n 0, []), (3, .invokevirtual 74, [0, 7, 148, 1, 0, 461]), (1, .aload_n 0, []), (3, .getfield 20, [2, 7, 2, 358]), (3, .getfield 77, [0, 0, 0, 104]), (1, .ireturn, [0])])]
def bk_T_ifSegment : List jx_B := [
  (0, [0, 1, 2], [(1, .aload_n 0, []), (1, .iload_n 1, []), (1, .iload_n 2, []), (3, .invokevirtual 122, [0, 7, 53, 3, 1, 539]), (1, .istore_n 3, []), (1, .iload_n 3, []), (3, .ifCond .eq 5, [1]), (1, .iload_n 3, []), (1, .ireturn, [0])]),
  (13, [0, 1, 2], [(1, .aload_n 0, []), (3, .getfield 36, [2, 7, 4, 360]), (1, .aload_n 0, []), (3, .getfield 32, [2, 7, 3, 359]), (3, .invokevirtual 197, [0, 5, 159, 2, 0, 411]), (1, .aload_n 0, []), (1, .aload_n 0, []), (3, .getfield 36, [2, 7, 4, 360]), (1, .iload_n 1, []), (1, .iload_n 2, []), (3, .invokevirtual 125, [0, 7, 163, 4, 1, 551]), (1, .ireturn, [0])])]
def bk_T_replay : List jx_B := [
  (0, [0, 1, 2], [(1, .iload_n 1, []), (3, .invokestatic 129, [0, 3, 1, 1, 543]), (3, .ifCond .eq 12, [1]), (1, .iload_n 2, []), (3, .ifCond .lt 8, [1]), (1, .iload_n 2, []), (1, .iconst 4, [0, 4]), (3, .if_icmp .lt 5, [2]), (0, .nop, [1])]),
  (16, [], [(1, .iconst (-1), [1, 1]), (1, .ireturn, [0])]),
  (18, [0, 1, 2], [(1, .aload_n 0, []), (3, .getfield 32, [2, 7, 3, 359]), (1, .iload_n 1, []), (3, .invokevirtual 132, [0, 5, 23, 2, 1, 546]), (1, .istore_n 3, []), (1, .iload_n 3, []), (1, .iconst (-1), [1, 1]), (3, .if_icmp .ne 8, [3]), (2, .bipush (-2), [1, 2]), (3, .goto 17, [4])]),
  (37, [0, 2, 3], [(1, .aload_n 0, []), (1, .aload_n 0, []), (3, .getfield 32, [2, 7, 3, 359]), (3, .getfield 143, [2, 5, 3, 335]), (1, .iload_n 3, []), (1, .aaload, [2]), (1, .iload_n 2, []), (3, .invokevirtual 201, [0, 7, 165, 3, 1, 773]), (0, .nop, [4])]),
  (51, [], [(1, .ireturn, [0])])]
def bk_T_segment : List jx_B := [
  (0, [0, 1, 2], [(1, .aload_n 0, []), (1, .iload_n 1, []), (1, .iload_n 2, []), (3, .invokevirtual 122, [0, 7, 53, 3, 1, 539]), (1, .istore_n 3, []), (1, .iload_n 3, []), (3, .ifCond .eq 5, [1]), (1, .iload_n 3, []), (1, .ireturn, [0])]),
  (13, [0, 1, 2], [(1, .aload_n 0, []), (3, .invokevirtual 61, [0, 7, 164, 1, 0, 403]), (1, .aload_n 0, []), (1, .aload_n 0, []), (3, .getfield 32, [2, 7, 3, 359]), (1, .iload_n 1, []), (1, .iload_n 2, []), (3, .invokevirtual 125, [0, 7, 163, 4, 1, 551]), (1, .ireturn, [0])])]
def bk_T_set : List jx_B := [
  (0, [0, 1, 2], [(1, .iload_n 1, []), (3, .ifCond .lt 26, [1]), (1, .iload_n 1, []), (1, .iconst 2, [0, 2]), (3, .if_icmp .gt 21, [1]), (1, .iload_n 2, []), (3, .getstatic 113, [0, 531]), (1, .iload_n 1, []), (1, .iaload, [1]), (3, .if_icmp .lt 12, [1]), (1, .iload_n 2, []), (3, .getstatic 116, [1, 533]), (1, .iload_n 1, []), (1, .iaload, [1]), (3, .if_icmp .le 5, [2]), (0, .nop, [1])]),
  (27, [], [(1, .iconst (-1), [1, 1]), (1, .ireturn, [0])]),
  (29, [0, 1, 2], [(1, .aload_n 0, []), (3, .invokevirtual 61, [0, 7, 164, 1, 0, 403]), (1, .aload_n 0, []), (3, .getfield 32, [2, 7, 3, 359]), (3, .getfield 119, [2, 5, 1, 331]), (1, .iload_n 1, []), (1, .iaload, [0]), (1, .istore_n 3, []), (1, .aload_n 0, []), (3, .getfield 32, [2, 7, 3, 359]), (3, .getfield 119, [2, 5, 1, 331]), (1, .iload_n 1, []), (1, .iload_n 2, []), (1, .iastore, []), (1, .iload_n 3, []), (1, .ireturn, [0])])]
def bk_M_deliversAll : List jx_B := [
  (0, [0], [(1, .aload_n 0, []), (1, .aload_n 0, []), (1, .iconst 4, [0, 4]), (3, .invokevirtual 112, [0, 8, 37, 2, 1, 993]), (3, .invokevirtual 173, [0, 8, 115, 2, 1, 1017]), (1, .istore_n 1, []), (0, .nop, [1])]),
  (10, [0, 1], [(1, .iload_n 1, []), (2, .bipush (-9), [1, 9]), (3, .if_icmp .eq 68, [4]), (1, .aload_n 0, []), (1, .iload_n 1, []), (1, .aload_n 0, []), (1, .iconst 4, [0, 4]), (3, .invokevirtual 112, [0, 8, 37, 2, 1, 993]), (3, .invokevirtual 170, [0, 8, 77, 3, 1, 1029]), (1, .istore_n 2, []), (1, .aload_n 0, []), (2, .bipush 15, [0, 15]), (1, .aload_n 0, []), (1, .aload_n 0, []), (1, .iconst 4, [0, 4]), (3, .invokevirtual 112, [0, 8, 37, 2, 1, 993]), (3, .invokevirtual 176, [0, 8, 116, 2, 1, 1033]), (3, .ifCond .eq 7, [2]), (1, .iconst 1, [0, 1]), (3, .goto 4, [3])]),
  (46, [0, 2], [(1, .iconst 0, [0, 0]), (0, .nop, [3])]),
  (47, [0, 2], [(3, .invokevirtual 121, [0, 8, 27, 3, 0, 997]), (1, .aload_n 0, []), (1, .iconst 4, [0, 4]), (3, .invokevirtual 112, [0, 8, 37, 2, 1, 993]), (1, .istore_n 3, []), (1, .aload_n 0, []), (1, .iconst 4, [0, 4]), (1, .iconst 1, [0, 1]), (3, .invokevirtual 121, [0, 8, 27, 3, 0, 997]), (1, .aload_n 0, []), (1, .iload_n 2, []), (1, .iload_n 3, []), (3, .invokevirtual 179, [0, 8, 166, 3, 0, 1037]), (1, .aload_n 0, []), (1, .aload_n 0, []), (1, .iconst 4, [0, 4]), (3, .invokevirtual 112, [0, 8, 37, 2, 1, 993]), (3, .invokevirtual 173, [0, 8, 115, 2, 1, 1017]), (1, .istore_n 1, []), (3, .goto (-68), [1])]),
  (81, [0], [(1, .aload_n 0, []), (3, .invokevirtual 182, [0, 8, 80, 1, 0, 1082]), (1, .return_, [])])]
def bk_M_handles : List jx_B := [
  (0, [0, 1, 2, 3], [(1, .aload_n 0, []), (2, .bipush 13, [0, 13]), (1, .iconst 1, [0, 1]), (3, .invokevirtual 121, [0, 8, 27, 3, 0, 997]), (1, .iload_n 1, []), (1, .iload_n 2, []), (1, .iadd, []), (1, .aload_n 0, []), (1, .iconst 4, [0, 4]), (3, .invokevirtual 112, [0, 8, 37, 2, 1, 993]), (3, .if_icmp .gt 11, [1]), (1, .aload_n 0, []), (2, .bipush 14, [0, 14]), (1, .iconst 1, [0, 1]), (3, .invokevirtual 121, [0, 8, 27, 3, 0, 997]), (1, .return_, [])]),
  (26, [0, 1, 2, 3], [(1, .aload_n 0, []), (1, .aload_n 0, []), (1, .iconst 5, [0, 5]), (3, .invokevirtual 112, [0, 8, 37, 2, 1, 993]), (3, .invokevirtual 161, [0, 8, 39, 2, 1, 1009]), (2, .istore 4, []), (1, .aload_n 0, []), (3, .getfield 7, [2, 8, 0, 851]), (2, .iload 4, []), (1, .iload_n 1, []), (1, .iastore, []), (1, .aload_n 0, []), (3, .getfield 7, [2, 8, 0, 851]), (2, .iload 4, []), (1, .iconst 1, [0, 1]), (1, .iadd, []), (1, .iload_n 2, []), (1, .iastore, []), (1, .iconst 0, [0, 0]), (2, .istore 5, []), (0, .nop, [2])]),
  (58, [0, 2, 3, 4, 5], [(2, .iload 5, []), (1, .iload_n 2, []), (3, .if_icmp .ge 30, [3]), (1, .aload_n 0, []), (3, .getfield 7, [2, 8, 0, 851]), (2, .iload 4, []), (1, .iconst 2, [0, 2]), (1, .iadd, []), (2, .iload 5, []), (1, .iadd, []), (1, .aload_n 0, []), (3, .getfield 7, [2, 8, 0, 851]), (1, .iload_n 3, []), (2, .iload 5, []), (1, .iadd, []), (1, .iaload, [0]), (1, .iastore, []), (3, .iinc 5 1, [0, 1]), (3, .goto (-30), [2])]),
  (91, [0], [(1, .aload_n 0, []), (1, .iconst 5, [0, 5]), (1, .iconst 1, [0, 1]), (3, .invokevirtual 121, [0, 8, 27, 3, 0, 997]), (1, .aload_n 0, []), (3, .invokevirtual 185, [0, 8, 178, 1, 0, 1013]), (0, .nop, [4])]),
  (101, [0], [(1, .aload_n 0, []), (1, .iconst 0, [0, 0]), (3, .invokevirtual 188, [0, 8, 137, 2, 1, 1086]), (1, .aload_n 0, []), (1, .iconst 3, [0, 3]), (3, .invokevirtual 112, [0, 8, 37, 2, 1, 993]), (3, .if_icmp .le 19, [5]), (1, .aload_n 0, []), (1, .aload_n 0, []), (1, .iconst 1, [0, 1]), (3, .invokevirtual 188, [0, 8, 137, 2, 1, 1086]), (3, .invokevirtual 192, [0, 8, 169, 2, 0, 1090]), (1, .aload_n 0, []), (3, .invokevirtual 185, [0, 8, 178, 1, 0, 1013]), (3, .goto (-26), [4])]),
  (130, [], [(1, .return_, [])])]
def bk_M_handlesText : List jx_B := [
  (0, [0, 1], [(1, .iconst 0, [0, 0]), (1, .istore_n 2, []), (0, .nop, [1])]),
  (2, [0, 1, 2], [(1, .iload_n 2, []), (1, .aload_n 0, []), (3, .getfield 89, [0, 8, 3, 854]), (3, .if_icmp .ge 25, [2]), (1, .aload_n 0, []), (3, .getfield 7, [2, 8, 0, 851]), (3, .sipush 3026, [0, 3026]), (1, .iload_n 2, []), (1, .iadd, []), (1, .aload_n 0, []), (3, .getfield 13, [2, 8, 2, 853]), (1, .iload_n 2, []), (1, .iaload, [0]), (1, .iastore, []), (3, .iinc 2 1, [0, 1]), (3, .goto (-27), [1])]),
  (32, [0, 1], [(1, .aload_n 0, []), (1, .iload_n 1, []), (1, .aload_n 0, []), (3, .getfield 89, [0, 8, 3, 854]), (3, .sipush 3026, [0, 3026]), (3, .invokevirtual 211, [0, 8, 179, 4, 0, 1005]), (1, .return_, [])])]
def bk_M_replays : List jx_B := [
  (0, [0, 1, 2], [(1, .aload_n 0, []), (1, .iconst 0, [0, 0]), (1, .iconst 5, [0, 5]), (3, .invokevirtual 50, [0, 8, 29, 3, 0, 929]), (1, .aload_n 0, []), (1, .iload_n 1, []), (3, .invokevirtual 92, [0, 8, 41, 2, 1, 937]), (1, .istore_n 3, []), (1, .aload_n 0, []), (3, .sipush 3026, [0, 3026]), (3, .putfield 109, [0, 8, 12, 863]), (1, .aload_n 0, []), (1, .aload_n 0, []), (3, .getfield 7, [2, 8, 0, 851]), (1, .iload_n 3, []), (1, .iconst 0, [0, 0]), (1, .iadd, []), (1, .iaload, [0]), (1, .iload_n 2, []), (1, .aload_n 0, []), (3, .getfield 7, [2, 8, 0, 851]), (1, .iload_n 3, []), (1, .iconst 2, [0, 2]), (1, .iadd, []), (1, .iaload, [0]), (1, .aload_n 0, []), (3, .getfield 7, [2, 8, 0, 851]), (1, .iload_n 3, []), (1, .iconst 3, [0, 3]), (1, .iadd, []), (1, .iaload, [0]), (3, .invokevirtual 204, [0, 8, 99, 5, 0, 985]), (1, .aload_n 0, []), (1, .iconst 0, [0, 0]), (3, .putfield 124, [0, 8, 14, 865]), (1, .iconst 0, [0, 0]), (2, .istore 4, []), (0, .nop, [1])]),
  (56, [0, 3, 4], [(2, .iload 4, []), (1, .aload_n 0, []), (3, .getfield 7, [2, 8, 0, 851]), (1, .iload_n 3, []), (2, .bipush 21, [0, 21]), (1, .iadd, []), (1, .iaload, [0]), (3, .if_icmp .ge 46, [2]), (1, .iload_n 3, []), (3, .sipush 290, [0, 290]), (1, .iadd, []), (2, .bipush 42, [0, 42]), (2, .iload 4, []), (1, .imul, []), (1, .iadd, []), (2, .istore 5, []), (1, .aload_n 0, []), (1, .aload_n 0, []), (3, .getfield 7, [2, 8, 0, 851]), (2, .iload 5, []), (1, .iaload, [0]), (1, .aload_n 0, []), (3, .getfield 7, [2, 8, 0, 851]), (2, .iload 5, []), (1, .iconst 1, [0, 1]), (1, .iadd, []), (1, .iaload, [0]), (2, .iload 5, []), (1, .iconst 2, [0, 2]), (1, .iadd, []), (3, .invokevirtual 211, [0, 8, 179, 4, 0, 1005]), (3, .iinc 4 1, [0, 1]), (3, .goto (-54), [1])]),
  (113, [0], [(1, .aload_n 0, []), (1, .iconst 5, [0, 5]), (1, .iconst 0, [0, 0]), (3, .invokevirtual 50, [0, 8, 29, 3, 0, 929]), (1, .aload_n 0, []), (3, .getfield 124, [0, 8, 14, 865]), (1, .ireturn, [0])])]
def bk_M_evasions : List jx_B := [
  (0, [0, 1], [(1, .aload_n 0, []), (1, .iload_n 1, []), (3, .invokevirtual 220, [0, 8, 114, 2, 1, 1098]), (1, .istore_n 2, []), (1, .iload_n 2, []), (3, .ifCond .ge 5, [1]), (1, .iload_n 2, []), (1, .ireturn, [0])]),
  (12, [0, 2], [(1, .iconst 0, [0, 0]), (1, .istore_n 3, []), (1, .iconst (-1), [1, 1]), (2, .istore 4, []), (1, .iconst 0, [0, 0]), (2, .istore 5, []), (0, .nop, [2])]),
  (20, [0, 2, 3, 4, 5], [(2, .iload 5, []), (1, .iconst 3, [0, 3]), (3, .if_icmp .gt 30, [3]), (1, .aload_n 0, []), (1, .iload_n 2, []), (2, .iload 5, []), (3, .invokevirtual 242, [0, 8, 181, 3, 1, 1162]), (2, .istore 6, []), (1, .iload_n 3, []), (2, .iload 6, []), (1, .ior, []), (1, .istore_n 3, []), (2, .iload 4, []), (2, .iload 6, []), (1, .iand, []), (2, .istore 4, []), (3, .iinc 5 1, [0, 1]), (3, .goto (-30), [2])]),
  (53, [3, 4], [(1, .iload_n 3, []), (2, .iload 4, []), (1, .iconst (-1), [1, 1]), (1, .ixor, []), (1, .iand, []), (1, .ireturn, [0])])]
def bk_M_replay : List jx_B := [
  (0, [0, 1, 2], [(1, .iload_n 2, []), (1, .iconst 0, [0, 0]), (1, .iconst 3, [0, 3]), (3, .invokestatic 85, [0, 32, 3, 1, 907]), (3, .ifCond .eq 11, [1]), (1, .aload_n 0, []), (1, .iload_n 1, []), (3, .invokevirtual 220, [0, 8, 114, 2, 1, 1098]), (3, .goto 4, [2])]),
  (17, [0, 2], [(1, .iconst (-1), [1, 1]), (0, .nop, [2])]),
  (18, [0, 2], [(1, .istore_n 3, []), (1, .iload_n 3, []), (3, .ifCond .ge 7, [3]), (1, .iload_n 3, []), (3, .goto 9, [4])]),
  (27, [0, 2, 3], [(1, .aload_n 0, []), (1, .iload_n 3, []), (1, .iload_n 2, []), (3, .invokevirtual 242, [0, 8, 181, 3, 1, 1162]), (0, .nop, [4])]),
  (33, [], [(1, .ireturn, [0])])]
def bk_M_segments : List jx_B := [
  (0, [0, 1, 2], [(1, .aload_n 0, []), (1, .iload_n 1, []), (3, .invokevirtual 195, [0, 8, 95, 2, 1, 969]), (1, .istore_n 3, []), (1, .iload_n 3, []), (2, .bipush (-9), [1, 9]), (3, .if_icmp .ne 79, [2]), (1, .aload_n 0, []), (3, .getfield 7, [2, 8, 0, 851]), (2, .bipush 57, [0, 57]), (1, .iaload, [0]), (1, .iconst 4, [0, 4]), (3, .if_icmp .ne 19, [1]), (1, .aload_n 0, []), (1, .iconst 0, [0, 0]), (3, .invokevirtual 198, [0, 8, 33, 2, 0, 977]), (1, .aload_n 0, []), (3, .getfield 7, [2, 8, 0, 851]), (2, .bipush 65, [0, 65]), (1, .dup2, []), (1, .iaload, [0]), (1, .iconst 1, [0, 1]), (1, .iadd, []), (1, .iastore, []), (0, .nop, [1])]),
  (39, [0, 1, 2], [(1, .aload_n 0, []), (3, .invokevirtual 201, [0, 8, 30, 1, 1, 981]), (2, .istore 4, []), (1, .aload_n 0, []), (3, .sipush 186, [0, 186]), (3, .sipush 710, [0, 710]), (2, .iload 4, []), (1, .imul, []), (1, .iadd, []), (3, .putfield 109, [0, 8, 12, 863]), (1, .aload_n 0, []), (1, .iload_n 1, []), (1, .aload_n 0, []), (3, .getfield 7, [2, 8, 0, 851]), (2, .bipush 54, [0, 54]), (1, .iaload, [0]), (1, .aload_n 0, []), (3, .getfield 7, [2, 8, 0, 851]), (2, .bipush 55, [0, 55]), (1, .iaload, [0]), (1, .aload_n 0, []), (3, .getfield 7, [2, 8, 0, 851]), (2, .bipush 56, [0, 56]), (1, .iaload, [0]), (3, .invokevirtual 204, [0, 8, 99, 5, 0, 985]), (3, .goto 33, [3])]),
  (88, [0, 2, 3], [(1, .aload_n 0, []), (3, .getfield 7, [2, 8, 0, 851]), (2, .bipush 58, [0, 58]), (1, .iload_n 3, []), (1, .iadd, []), (1, .iaload, [0]), (2, .istore 4, []), (1, .aload_n 0, []), (1, .iload_n 3, []), (3, .invokevirtual 198, [0, 8, 33, 2, 0, 977]), (1, .aload_n 0, []), (3, .sipush 186, [0, 186]), (3, .sipush 710, [0, 710]), (2, .iload 4, []), (1, .imul, []), (1, .iadd, []), (3, .putfield 109, [0, 8, 12, 863]), (0, .nop, [3])]),
  (118, [0, 2, 4], [(1, .aload_n 0, []), (3, .getfield 7, [2, 8, 0, 851]), (2, .bipush 58, [0, 58]), (1, .aload_n 0, []), (3, .getfield 7, [2, 8, 0, 851]), (2, .bipush 57, [0, 57]), (1, .iaload, [0]), (1, .iadd, []), (2, .iload 4, []), (1, .iastore, []), (1, .aload_n 0, []), (3, .getfield 7, [2, 8, 0, 851]), (2, .bipush 57, [0, 57]), (1, .dup2, []), (1, .iaload, [0]), (1, .iconst 1, [0, 1]), (1, .iadd, []), (1, .iastore, []), (1, .aload_n 0, []), (3, .getfield 109, [0, 8, 12, 863]), (3, .sipush 290, [0, 290]), (1, .iadd, []), (2, .bipush 42, [0, 42]), (1, .aload_n 0, []), (2, .bipush 21, [0, 21]), (3, .invokevirtual 112, [0, 8, 37, 2, 1, 993]), (2, .bipush 10, [0, 10]), (3, .if_icmp .ge 12, [4]), (1, .aload_n 0, []), (2, .bipush 21, [0, 21]), (3, .invokevirtual 112, [0, 8, 37, 2, 1, 993]), (3, .goto 5, [5])]),
  (176, [0, 2], [(2, .bipush 9, [0, 9]), (0, .nop, [5])]),
  (178, [0, 2], [(1, .imul, []), (1, .iadd, []), (2, .istore 5, []), (1, .aload_n 0, []), (2, .bipush 21, [0, 21]), (3, .invokevirtual 112, [0, 8, 37, 2, 1, 993]), (2, .bipush 10, [0, 10]), (3, .if_icmp .ge 68, [8]), (1, .aload_n 0, []), (3, .getfield 7, [2, 8, 0, 851]), (2, .iload 5, []), (1, .iload_n 2, []), (1, .iastore, []), (1, .aload_n 0, []), (3, .getfield 7, [2, 8, 0, 851]), (2, .iload 5, []), (1, .iconst 1, [0, 1]), (1, .iadd, []), (1, .aload_n 0, []), (3, .getfield 89, [0, 8, 3, 854]), (1, .iastore, []), (1, .iconst 0, [0, 0]), (2, .istore 6, []), (0, .nop, [6])]),
  (217, [0, 2, 5, 6], [(2, .iload 6, []), (1, .aload_n 0, []), (3, .getfield 89, [0, 8, 3, 854]), (3, .if_icmp .ge 28, [7]), (1, .aload_n 0, []), (3, .getfield 7, [2, 8, 0, 851]), (2, .iload 5, []), (1, .iconst 2, [0, 2]), (1, .iadd, []), (2, .iload 6, []), (1, .iadd, []), (1, .aload_n 0, []), (3, .getfield 13, [2, 8, 2, 853]), (2, .iload 6, []), (1, .iaload, [0]), (1, .iastore, []), (3, .iinc 6 1, [0, 1]), (3, .goto (-31), [6])]),
  (251, [0, 2], [(1, .aload_n 0, []), (2, .bipush 21, [0, 21]), (1, .iconst 1, [0, 1]), (3, .invokevirtual 121, [0, 8, 27, 3, 0, 997]), (0, .nop, [8])]),
  (258, [0, 2], [(1, .aload_n 0, []), (1, .iconst 0, [0, 0]), (3, .putfield 118, [0, 8, 13, 864]), (1, .aload_n 0, []), (1, .iload_n 2, []), (3, .invokevirtual 208, [0, 8, 180, 2, 0, 1001]), (1, .return_, [])])]
def bk_M_ifSegment : List jx_B := [
  (0, [0, 1, 2], [(1, .aload_n 0, []), (1, .iload_n 1, []), (1, .iload_n 2, []), (3, .invokevirtual 214, [0, 8, 123, 3, 1, 965]), (1, .istore_n 3, []), (1, .iload_n 3, []), (3, .ifCond .eq 5, [1]), (1, .iload_n 3, []), (1, .ireturn, [0])]),
  (13, [0, 1, 2], [(1, .aload_n 0, []), (1, .iconst 0, [0, 0]), (1, .iconst 5, [0, 5]), (3, .invokevirtual 50, [0, 8, 29, 3, 0, 929]), (1, .aload_n 0, []), (1, .iload_n 1, []), (1, .iload_n 2, []), (3, .invokevirtual 217, [0, 8, 184, 3, 0, 973]), (1, .aload_n 0, []), (1, .iconst 5, [0, 5]), (1, .iconst 0, [0, 0]), (3, .invokevirtual 50, [0, 8, 29, 3, 0, 929]), (1, .aload_n 0, []), (3, .getfield 118, [0, 8, 13, 864]), (1, .ireturn, [0])])]
def bk_M_segment : List jx_B := [
  (0, [0, 1, 2], [(1, .aload_n 0, []), (1, .iload_n 1, []), (1, .iload_n 2, []), (3, .invokevirtual 214, [0, 8, 123, 3, 1, 965]), (1, .istore_n 3, []), (1, .iload_n 3, []), (3, .ifCond .eq 5, [1]), (1, .iload_n 3, []), (1, .ireturn, [0])]),
  (13, [0, 1, 2], [(1, .aload_n 0, []), (3, .invokevirtual 103, [0, 8, 76, 1, 0, 925]), (1, .aload_n 0, []), (1, .iload_n 1, []), (1, .iload_n 2, []), (3, .invokevirtual 217, [0, 8, 184, 3, 0, 973]), (1, .aload_n 0, []), (3, .getfield 118, [0, 8, 13, 864]), (1, .ireturn, [0])])]
def bk_L_law : List jx_B := [
  (0, [0], [(3, .new 7, [7, 89, 90, 75]), (1, .dup, []), (3, .invokespecial 9, [0, 144, 1, 91]), (1, .astore_n 1, []), (3, .new 10, [8, 809, 810, 83]), (1, .dup, []), (3, .invokespecial 12, [0, 135, 1, 811]), (1, .astore_n 2, []), (1, .iconst 0, [0, 0]), (1, .istore_n 3, []), (0, .nop, [1])]),
  (18, [0, 1, 2, 3], [(1, .iload_n 3, []), (1, .aload_n 0, []), (1, .arraylength, [1]), (1, .iconst 3, [0, 3]), (1, .isub, []), (3, .if_icmp .gt 734, [26]), (1, .aload_n 0, []), (1, .iload_n 3, []), (1, .iaload, [1]), (2, .bipush 31, [0, 31]), (1, .iand, []), (108, .tableswitch 719 0 22 #[108, 131, 144, 167, 190, 223, 256, 289, 322, 355, 378, 401, 434, 467, 491, 524, 557, 580, 613, 646, 669, 692, 705], [25, 2, 3, 4, 5, 6, 7, 8, 9, 10, 11, 12, 13, 14, 15, 16, 17, 18, 19, 20, 21, 22, 23, 24])]),
  (140, [0, 1, 2, 3], [(1, .aload_n 1, []), (1, .aload_n 0, []), (1, .iload_n 3, []), (1, .iconst 1, [0, 1]), (1, .iadd, []), (1, .iaload, [1]), (3, .invokevirtual 13, [0, 7, 7, 2, 1, 381]), (1, .aload_n 2, []), (1, .aload_n 0, []), (1, .iload_n 3, []), (1, .iconst 1, [0, 1]), (1, .iadd, []), (1, .iaload, [1]), (3, .invokevirtual 17, [0, 8, 100, 2, 1, 903]), (3, .if_icmp .eq 593, [25]), (1, .iconst 0, [0, 0]), (1, .ireturn, [1])]),
  (163, [0, 1, 2, 3], [(1, .aload_n 1, []), (3, .invokevirtual 18, [0, 7, 0, 1, 1, 385]), (1, .aload_n 2, []), (3, .invokevirtual 22, [0, 8, 28, 1, 1, 910]), (3, .if_icmp .eq 580, [25]), (1, .iconst 0, [0, 0]), (1, .ireturn, [1])]),
  (176, [0, 1, 2, 3], [(1, .aload_n 1, []), (1, .aload_n 0, []), (1, .iload_n 3, []), (1, .iconst 1, [0, 1]), (1, .iadd, []), (1, .iaload, [1]), (3, .invokevirtual 23, [0, 7, 170, 2, 1, 389]), (1, .aload_n 2, []), (1, .aload_n 0, []), (1, .iload_n 3, []), (1, .iconst 1, [0, 1]), (1, .iadd, []), (1, .iaload, [1]), (3, .invokevirtual 26, [0, 8, 154, 2, 1, 914]), (3, .if_icmp .eq 557, [25]), (1, .iconst 0, [0, 0]), (1, .ireturn, [1])]),
  (199, [0, 1, 2, 3], [(1, .aload_n 1, []), (1, .aload_n 0, []), (1, .iload_n 3, []), (1, .iconst 1, [0, 1]), (1, .iadd, []), (1, .iaload, [1]), (3, .invokevirtual 27, [0, 7, 173, 2, 1, 497]), (1, .aload_n 2, []), (1, .aload_n 0, []), (1, .iload_n 3, []), (1, .iconst 1, [0, 1]), (1, .iadd, []), (1, .iaload, [1]), (3, .invokevirtual 30, [0, 8, 155, 2, 1, 941]), (3, .if_icmp .eq 534, [25]), (1, .iconst 0, [0, 0]), (1, .ireturn, [1])]),
  (222, [0, 1, 2, 3], [(1, .aload_n 1, []), (1, .aload_n 0, []), (1, .iload_n 3, []), (1, .iconst 1, [0, 1]), (1, .iadd, []), (1, .iaload, [1]), (1, .aload_n 0, []), (1, .iload_n 3, []), (1, .iconst 2, [0, 2]), (1, .iadd, []), (1, .iaload, [1]), (3, .invokevirtual 31, [0, 7, 48, 3, 1, 509]), (1, .aload_n 2, []), (1, .aload_n 0, []), (1, .iload_n 3, []), (1, .iconst 1, [0, 1]), (1, .iadd, []), (1, .iaload, [1]), (1, .aload_n 0, []), (1, .iload_n 3, []), (1, .iconst 2, [0, 2]), (1, .iadd, []), (1, .iaload, [1]), (3, .invokevirtual 35, [0, 8, 118, 3, 1, 945]), (3, .if_icmp .eq 501, [25]), (1, .iconst 0, [0, 0]), (1, .ireturn, [1])]),
  (255, [0, 1, 2, 3], [(1, .aload_n 1, []), (1, .aload_n 0, []), (1, .iload_n 3, []), (1, .iconst 1, [0, 1]), (1, .iadd, []), (1, .iaload, [1]), (1, .aload_n 0, []), (1, .iload_n 3, []), (1, .iconst 2, [0, 2]), (1, .iadd, []), (1, .iaload, [1]), (3, .invokevirtual 36, [0, 7, 50, 3, 1, 514]), (1, .aload_n 2, []), (1, .aload_n 0, []), (1, .iload_n 3, []), (1, .iconst 1, [0, 1]), (1, .iadd, []), (1, .iaload, [1]), (1, .aload_n 0, []), (1, .iload_n 3, []), (1, .iconst 2, [0, 2]), (1, .iadd, []), (1, .iaload, [1]), (3, .invokevirtual 39, [0, 8, 94, 3, 1, 949]), (3, .if_icmp .eq 468, [25]), (1, .iconst 0, [0, 0]), (1, .ireturn, [1])]),
  (288, [0, 1, 2, 3], [(1, .aload_n 1, []), (1, .aload_n 0, []), (1, .iload_n 3, []), (1, .iconst 1, [0, 1]), (1, .iadd, []), (1, .iaload, [1]), (1, .aload_n 0, []), (1, .iload_n 3, []), (1, .iconst 2, [0, 2]), (1, .iadd, []), (1, .iaload, [1]), (3, .invokevirtual 40, [0, 7, 49, 3, 1, 522]), (1, .aload_n 2, []), (1, .aload_n 0, []), (1, .iload_n 3, []), (1, .iconst 1, [0, 1]), (1, .iadd, []), (1, .iaload, [1]), (1, .aload_n 0, []), (1, .iload_n 3, []), (1, .iconst 2, [0, 2]), (1, .iadd, []), (1, .iaload, [1]), (3, .invokevirtual 43, [0, 8, 93, 3, 1, 953]), (3, .if_icmp .eq 435, [25]), (1, .iconst 0, [0, 0]), (1, .ireturn, [1])]),
  (321, [0, 1, 2, 3], [(1, .aload_n 1, []), (1, .aload_n 0, []), (1, .iload_n 3, []), (1, .iconst 1, [0, 1]), (1, .iadd, []), (1, .iaload, [1]), (1, .aload_n 0, []), (1, .iload_n 3, []), (1, .iconst 2, [0, 2]), (1, .iadd, []), (1, .iaload, [1]), (3, .invokevirtual 44, [0, 7, 177, 3, 1, 527]), (1, .aload_n 2, []), (1, .aload_n 0, []), (1, .iload_n 3, []), (1, .iconst 1, [0, 1]), (1, .iadd, []), (1, .iaload, [1]), (1, .aload_n 0, []), (1, .iload_n 3, []), (1, .iconst 2, [0, 2]), (1, .iadd, []), (1, .iaload, [1]), (3, .invokevirtual 47, [0, 8, 120, 3, 1, 957]), (3, .if_icmp .eq 402, [25]), (1, .iconst 0, [0, 0]), (1, .ireturn, [1])]),
  (354, [0, 1, 2, 3], [(1, .aload_n 1, []), (1, .aload_n 0, []), (1, .iload_n 3, []), (1, .iconst 1, [0, 1]), (1, .iadd, []), (1, .iaload, [1]), (1, .aload_n 0, []), (1, .iload_n 3, []), (1, .iconst 2, [0, 2]), (1, .iadd, []), (1, .iaload, [1]), (3, .invokevirtual 48, [0, 7, 176, 3, 1, 535]), (1, .aload_n 2, []), (1, .aload_n 0, []), (1, .iload_n 3, []), (1, .iconst 1, [0, 1]), (1, .iadd, []), (1, .iaload, [1]), (1, .aload_n 0, []), (1, .iload_n 3, []), (1, .iconst 2, [0, 2]), (1, .iadd, []), (1, .iaload, [1]), (3, .invokevirtual 51, [0, 8, 186, 3, 1, 961]), (3, .if_icmp .eq 369, [25]), (1, .iconst 0, [0, 0]), (1, .ireturn, [1])]),
  (387, [0, 1, 2, 3], [(1, .aload_n 1, []), (1, .aload_n 0, []), (1, .iload_n 3, []), (1, .iconst 1, [0, 1]), (1, .iadd, []), (1, .iaload, [1]), (3, .invokevirtual 52, [0, 7, 172, 2, 1, 691]), (1, .aload_n 2, []), (1, .aload_n 0, []), (1, .iload_n 3, []), (1, .iconst 1, [0, 1]), (1, .iadd, []), (1, .iaload, [1]), (3, .invokevirtual 55, [0, 8, 168, 2, 1, 1094]), (3, .if_icmp .eq 346, [25]), (1, .iconst 0, [0, 0]), (1, .ireturn, [1])]),
  (410, [0, 1, 2, 3], [(1, .aload_n 1, []), (1, .aload_n 0, []), (1, .iload_n 3, []), (1, .iconst 1, [0, 1]), (1, .iadd, []), (1, .iaload, [1]), (3, .invokevirtual 56, [0, 7, 2, 2, 1, 701]), (1, .aload_n 2, []), (1, .aload_n 0, []), (1, .iload_n 3, []), (1, .iconst 1, [0, 1]), (1, .iadd, []), (1, .iaload, [1]), (3, .invokevirtual 59, [0, 8, 84, 2, 1, 1102]), (3, .if_icmp .eq 323, [25]), (1, .iconst 0, [0, 0]), (1, .ireturn, [1])]),
  (433, [0, 1, 2, 3], [(1, .aload_n 1, []), (1, .aload_n 0, []), (1, .iload_n 3, []), (1, .iconst 1, [0, 1]), (1, .iadd, []), (1, .iaload, [1]), (1, .aload_n 0, []), (1, .iload_n 3, []), (1, .iconst 2, [0, 2]), (1, .iadd, []), (1, .iaload, [1]), (3, .invokevirtual 60, [0, 7, 146, 3, 1, 705]), (1, .aload_n 2, []), (1, .aload_n 0, []), (1, .iload_n 3, []), (1, .iconst 1, [0, 1]), (1, .iadd, []), (1, .iaload, [1]), (1, .aload_n 0, []), (1, .iload_n 3, []), (1, .iconst 2, [0, 2]), (1, .iadd, []), (1, .iaload, [1]), (3, .invokevirtual 63, [0, 8, 162, 3, 1, 1106]), (3, .if_icmp .eq 290, [25]), (1, .iconst 0, [0, 0]), (1, .ireturn, [1])]),
  (466, [0, 1, 2, 3], [(1, .aload_n 1, []), (1, .aload_n 0, []), (1, .iload_n 3, []), (1, .iconst 1, [0, 1]), (1, .iadd, []), (1, .iaload, [1]), (1, .aload_n 0, []), (1, .iload_n 3, []), (1, .iconst 2, [0, 2]), (1, .iadd, []), (1, .iaload, [1]), (3, .invokevirtual 64, [0, 7, 124, 3, 1, 719]), (1, .aload_n 2, []), (1, .aload_n 0, []), (1, .iload_n 3, []), (1, .iconst 1, [0, 1]), (1, .iadd, []), (1, .iaload, [1]), (1, .aload_n 0, []), (1, .iload_n 3, []), (1, .iconst 2, [0, 2]), (1, .iadd, []), (1, .iaload, [1]), (3, .invokevirtual 67, [0, 8, 152, 3, 1, 1118]), (3, .if_icmp .eq 257, [25]), (1, .iconst 0, [0, 0]), (1, .ireturn, [1])]),
  (499, [0, 1, 2, 3], [(1, .aload_n 1, []), (1, .aload_n 0, []), (1, .iload_n 3, []), (1, .iconst 1, [0, 1]), (1, .iadd, []), (1, .iaload, [1]), (3, .invokevirtual 68, [0, 7, 51, 2, 2, 727]), (1, .aload_n 2, []), (1, .aload_n 0, []), (1, .iload_n 3, []), (1, .iconst 1, [0, 1]), (1, .iadd, []), (1, .iaload, [1]), (3, .invokevirtual 72, [0, 8, 140, 2, 2, 1126]), (1, .lcmp, []), (3, .ifCond .eq 233, [25]), (1, .iconst 0, [0, 0]), (1, .ireturn, [1])]),
  (523, [0, 1, 2, 3], [(1, .aload_n 1, []), (1, .aload_n 0, []), (1, .iload_n 3, []), (1, .iconst 1, [0, 1]), (1, .iadd, []), (1, .iaload, [1]), (1, .aload_n 0, []), (1, .iload_n 3, []), (1, .iconst 2, [0, 2]), (1, .iadd, []), (1, .iaload, [1]), (3, .invokevirtual 73, [0, 7, 52, 3, 1, 733]), (1, .aload_n 2, []), (1, .aload_n 0, []), (1, .iload_n 3, []), (1, .iconst 1, [0, 1]), (1, .iadd, []), (1, .iaload, [1]), (1, .aload_n 0, []), (1, .iload_n 3, []), (1, .iconst 2, [0, 2]), (1, .iadd, []), (1, .iaload, [1]), (3, .invokevirtual 76, [0, 8, 141, 3, 1, 1134]), (3, .if_icmp .eq 200, [25]), (1, .iconst 0, [0, 0]), (1, .ireturn, [1])]),
  (556, [0, 1, 2, 3], [(1, .aload_n 1, []), (1, .aload_n 0, []), (1, .iload_n 3, []), (1, .iconst 1, [0, 1]), (1, .iadd, []), (1, .iaload, [1]), (1, .aload_n 0, []), (1, .iload_n 3, []), (1, .iconst 2, [0, 2]), (1, .iadd, []), (1, .iaload, [1]), (3, .invokevirtual 77, [0, 7, 125, 3, 1, 741]), (1, .aload_n 2, []), (1, .aload_n 0, []), (1, .iload_n 3, []), (1, .iconst 1, [0, 1]), (1, .iadd, []), (1, .iaload, [1]), (1, .aload_n 0, []), (1, .iload_n 3, []), (1, .iconst 2, [0, 2]), (1, .iadd, []), (1, .iaload, [1]), (3, .invokevirtual 80, [0, 8, 83, 3, 1, 1142]), (3, .if_icmp .eq 167, [25]), (1, .iconst 0, [0, 0]), (1, .ireturn, [1])]),
  (589, [0, 1, 2, 3], [(1, .aload_n 1, []), (1, .aload_n 0, []), (1, .iload_n 3, []), (1, .iconst 1, [0, 1]), (1, .iadd, []), (1, .iaload, [1]), (3, .invokevirtual 81, [0, 7, 101, 2, 1, 755]), (1, .aload_n 2, []), (1, .aload_n 0, []), (1, .iload_n 3, []), (1, .iconst 1, [0, 1]), (1, .iadd, []), (1, .iaload, [1]), (3, .invokevirtual 84, [0, 8, 122, 2, 1, 1146]), (3, .if_icmp .eq 144, [25]), (1, .iconst 0, [0, 0]), (1, .ireturn, [1])]),
  (612, [0, 1, 2, 3], [(1, .aload_n 1, []), (1, .aload_n 0, []), (1, .iload_n 3, []), (1, .iconst 1, [0, 1]), (1, .iadd, []), (1, .iaload, [1]), (1, .aload_n 0, []), (1, .iload_n 3, []), (1, .iconst 2, [0, 2]), (1, .iadd, []), (1, .iaload, [1]), (3, .invokevirtual 85, [0, 7, 174, 3, 1, 765]), (1, .aload_n 2, []), (1, .aload_n 0, []), (1, .iload_n 3, []), (1, .iconst 1, [0, 1]), (1, .iadd, []), (1, .iaload, [1]), (1, .aload_n 0, []), (1, .iload_n 3, []), (1, .iconst 2, [0, 2]), (1, .iadd, []), (1, .iaload, [1]), (3, .invokevirtual 88, [0, 8, 185, 3, 1, 1154]), (3, .if_icmp .eq 111, [25]), (1, .iconst 0, [0, 0]), (1, .ireturn, [1])]),
  (645, [0, 1, 2, 3], [(1, .aload_n 1, []), (1, .aload_n 0, []), (1, .iload_n 3, []), (1, .iconst 1, [0, 1]), (1, .iadd, []), (1, .iaload, [1]), (1, .aload_n 0, []), (1, .iload_n 3, []), (1, .iconst 2, [0, 2]), (1, .iadd, []), (1, .iaload, [1]), (3, .invokevirtual 89, [0, 7, 175, 3, 1, 769]), (1, .aload_n 2, []), (1, .aload_n 0, []), (1, .iload_n 3, []), (1, .iconst 1, [0, 1]), (1, .iadd, []), (1, .iaload, [1]), (1, .aload_n 0, []), (1, .iload_n 3, []), (1, .iconst 2, [0, 2]), (1, .iadd, []), (1, .iaload, [1]), (3, .invokevirtual 92, [0, 8, 183, 3, 1, 1158]), (3, .if_icmp .eq 78, [25]), (1, .iconst 0, [0, 0]), (1, .ireturn, [1])]),
  (678, [0, 1, 2, 3], [(1, .aload_n 1, []), (1, .aload_n 0, []), (1, .iload_n 3, []), (1, .iconst 1, [0, 1]), (1, .iadd, []), (1, .iaload, [1]), (3, .invokevirtual 93, [0, 7, 171, 2, 1, 778]), (1, .aload_n 2, []), (1, .aload_n 0, []), (1, .iload_n 3, []), (1, .iconst 1, [0, 1]), (1, .iadd, []), (1, .iaload, [1]), (3, .invokevirtual 96, [0, 8, 182, 2, 1, 1166]), (3, .if_icmp .eq 55, [25]), (1, .iconst 0, [0, 0]), (1, .ireturn, [1])]),
  (701, [0, 1, 2, 3], [(1, .aload_n 1, []), (1, .aload_n 0, []), (1, .iload_n 3, []), (1, .iconst 1, [0, 1]), (1, .iadd, []), (1, .iaload, [1]), (3, .invokevirtual 97, [0, 7, 126, 2, 1, 782]), (1, .aload_n 2, []), (1, .aload_n 0, []), (1, .iload_n 3, []), (1, .iconst 1, [0, 1]), (1, .iadd, []), (1, .iaload, [1]), (3, .invokevirtual 100, [0, 8, 138, 2, 1, 1170]), (3, .if_icmp .eq 32, [25]), (1, .iconst 0, [0, 0]), (1, .ireturn, [1])]),
  (724, [0, 1, 2, 3], [(1, .aload_n 1, []), (3, .invokevirtual 101, [0, 7, 147, 1, 1, 791]), (1, .aload_n 2, []), (3, .invokevirtual 104, [0, 8, 143, 1, 1, 1174]), (3, .if_icmp .eq 19, [25]), (1, .iconst 0, [0, 0]), (1, .ireturn, [1])]),
  (737, [0, 1, 2, 3], [(1, .aload_n 1, []), (3, .invokevirtual 105, [0, 7, 157, 1, 2, 795]), (1, .aload_n 2, []), (3, .invokevirtual 109, [0, 8, 167, 1, 2, 1178]), (1, .lcmp, []), (3, .ifCond .eq 5, [25]), (1, .iconst 0, [0, 0]), (1, .ireturn, [1])]),
  (751, [0, 1, 2, 3], [(3, .iinc 3 3, [0, 3]), (3, .goto (-736), [1])]),
  (757, [], [(1, .iconst 1, [0, 1]), (1, .ireturn, [1])])]
def jx_mtab : List jx_Mt := [
  ((yX7_clear, cX7_clear, 2, (some .int), (0, 0), (0, 0)), 1, 0, [388, 75, 386, 387]),
  ((yX7_dropOldest, cX7_dropOldest, 3, none, (0, 0), (0, 0)), 1, 0, [410, 75, 409, 2]),
  ((yX7_flow, cX7_flow, 2, (some .int), (0, 0), (0, 0)), 1, 1, [704, 75, 702, 703]),
  ((yX7_isKey, cX7_isKey, 1, (some .boolean), (0, 0), (0, 0)), 0, 1, [545, 75, 544]),
  ((yX7_isLetter, cX7_isLetter, 1, (some .boolean), (0, 0), (0, 0)), 0, 1, [402, 75, 401]),
  ((yX7_isWord, cX7_isWord, 1, (some .boolean), (0, 0), (0, 0)), 0, 1, [395, 75, 394]),
  ((yX7_mixed, cX7_mixed, 4, (some .long), (0, 0), (0, 0)), 0, 2, [803, 75, 802]),
  ((yX7_type, cX7_type, 2, (some .int), (0, 0), (0, 0)), 1, 1, [384, 75, 382, 383]),
  ((yX0_has, cX0_has, 2, (some .boolean), (0, 0), (0, 0)), 1, 1, [521, 76, 519, 520]),
  ((yX0_nextOf, cX0_nextOf, 3, (some .int), (0, 0), (0, 0)), 1, 2, [492, 76, 490, 491]),
  ((yX0_nextSet, cX0_nextSet, 7, (some .long), (0, 0), (0, 0)), 1, 2, [628, 76, 626, 627]),
  ((yX0_wordsOfSet, cX0_wordsOfSet, 5, (some .int), (0, 0), (0, 0)), 1, 1, [632, 76, 630, 631]),
  ((yX1_add, cX1_add, 6, none, (0, 0), (0, 0)), 1, 4, [640, 78, 638, 639]),
  ((yX1_made, cX1_made, 1, (some .int), (0, 0), (0, 0)), 1, 0, [558, 78, 556, 557]),
  ((yX2_isPreferred, cX2_isPreferred, 3, (some .boolean), (0, 0), (0, 0)), 1, 2, [601, 80, 600, 13]),
  ((yX3_firstIndexOf, cX3_firstIndexOf, 3, (some .int), (0, 0), (0, 0)), 1, 1, [636, 82, 635, 17]),
  ((yX3_hexadecimal, cX3_hexadecimal, 1, (some .int), (0, 0), (0, 0)), 0, 1, [649, 82, 648]),
  ((yX3_isDropped, cX3_isDropped, 2, (some .boolean), (0, 0), (0, 0)), 1, 1, [622, 82, 621, 16]),
  ((yX3_recentCharacter, cX3_recentCharacter, 2, (some .int), (0, 0), (0, 0)), 1, 1, [740, 82, 738, 739]),
  ((yX3_restart, cX3_restart, 1, none, (0, 0), (0, 0)), 1, 0, [496, 82, 494, 495]),
  ((yX4_covers, cX4_covers, 3, (some .boolean), (0, 0), (0, 0)), 1, 2, [597, 81, 595, 596]),
  ((yX4_isFull, cX4_isFull, 1, (some .boolean), (0, 0), (0, 0)), 1, 0, [443, 81, 441, 442]),
  ((yX5_movedToEnd, cX5_movedToEnd, 4, (some (.object "TornStreams$Flow")), (0, 0), (0, 0)), 1, 1, [571, 77, 570, 10]),
  ((yX5_placeOf, cX5_placeOf, 3, (some .int), (0, 0), (0, 0)), 1, 1, [549, 77, 547, 548]),
  ((yX6_isDefined, cX6_isDefined, 2, (some .boolean), (0, 0), (0, 0)), 1, 1, [504, 79, 502, 503]),
  ((yX6_letterAt, cX6_letterAt, 3, (some .int), (0, 0), (0, 0)), 1, 2, [479, 79, 477, 478]),
  ((yX6_remove, cX6_remove, 2, none, (0, 0), (0, 0)), 1, 1, [508, 79, 506, 507]),
  ((yX8_adds, cX8_adds, 3, none, (0, 0), (0, 0)), 1, 2, [1000, 83, 999, 43]),
  ((yX8_clear, cX8_clear, 2, (some .int), (0, 0), (0, 0)), 1, 0, [913, 83, 911, 912]),
  ((yX8_copies, cX8_copies, 4, none, (0, 0), (0, 0)), 1, 2, [932, 83, 931, 32]),
  ((yX8_freeSlot, cX8_freeSlot, 4, (some .int), (0, 0), (0, 0)), 1, 0, [984, 83, 983, 39]),
  ((yX8_highOf, cX8_highOf, 1, (some .int), (0, 0), (0, 0)), 0, 1, [1069, 83, 1068]),
  ((yX8_in, cX8_in, 3, (some .boolean), (0, 0), (0, 0)), 0, 3, [909, 83, 908]),
  ((yX8_leaves, cX8_leaves, 3, none, (0, 0), (0, 0)), 1, 1, [980, 83, 979, 38]),
  ((yX8_letterOf, cX8_letterOf, 3, (some .int), (0, 0), (0, 0)), 1, 2, [826, 83, 825, 23]),
  ((yX8_lowOf, cX8_lowOf, 1, (some .int), (0, 0), (0, 0)), 0, 1, [1066, 83, 1065]),
  ((yX8_nodeOf, cX8_nodeOf, 6, (some .int), (0, 0), (0, 0)), 1, 2, [846, 83, 845, 28]),
  ((yX8_of, cX8_of, 2, (some .int), (0, 0), (0, 0)), 1, 1, [996, 83, 995, 42]),
  ((yX8_order, cX8_order, 5, (some .int), (0, 0), (0, 0)), 1, 2, [834, 83, 833, 25]),
  ((yX8_pieceAt, cX8_pieceAt, 2, (some .int), (0, 0), (0, 0)), 1, 1, [1012, 83, 1011, 46]),
  ((yX8_put, cX8_put, 3, none, (0, 0), (0, 0)), 1, 2, [992, 83, 991, 41]),
  ((yX8_slot, cX8_slot, 2, (some .int), (0, 0), (0, 0)), 1, 1, [940, 83, 939, 34]),
  ((yX8_takes, cX8_takes, 3, none, (0, 0), (0, 0)), 1, 1, [842, 83, 841, 27]),
  ((yX8_wordLength, cX8_wordLength, 2, (some .int), (0, 0), (0, 0)), 1, 1, [822, 83, 821, 22]),
  ((yJ6_bitCount_0f7a4, cJ6_bitCount_0f7a4, 1, (some .int), (0, 0), (0, 0)), 0, 1, [643, 87, 642]),
  ((yJ13_bitCount_95d88, cJ13_bitCount_95d88, 2, (some .int), (0, 0), (0, 0)), 0, 1, [715, 88, 714]),
  ((yJ7_fill_53178, cJ7_fill_53178, 4, none, (0, 0), (0, 0)), 0, 2, [471, 86, 470]),
  ((yX7_firstWrongByte, cX7_firstWrongByte, 2, (some .int), (0, 0), (1, 20)), 1, 0, [399, 75, 398, 0]),
  ((yX7_letter, cX7_letter, 3, (some .int), (0, 0), (1, 22)), 1, 2, [512, 75, 510, 511]),
  ((yX7_next, cX7_next, 3, (some .int), (0, 0), (1, 22)), 1, 2, [525, 75, 523, 524]),
  ((yX7_node, cX7_node, 3, (some .int), (0, 0), (1, 21)), 1, 2, [517, 75, 515, 516]),
  ((yX7_possible, cX7_possible, 3, (some .long), (0, 0), (1, 22)), 1, 1, [730, 75, 728, 729]),
  ((yX7_read, cX7_read, 4, (some .int), (0, 0), (1, 22)), 1, 2, [736, 75, 734, 735]),
  ((yX7_segmentError, cX7_segmentError, 4, (some .int), (0, 0), (1, 22)), 1, 2, [542, 75, 541, 8]),
  ((yX0_init, cX0_init, 1, none, (8, 1531), (1, 12)), 2, 0, [101, 76, 100]),
  ((yX0_added, cX0_added, 5, (some .int), (0, 0), (1, 21)), 1, 3, [483, 76, 482, 6]),
  ((yX0_link, cX0_link, 6, none, (0, 0), (1, 22)), 1, 1, [488, 76, 487, 7]),
  ((yX0_nextSetByAny, cX0_nextSetByAny, 6, (some .long), (0, 0), (1, 26)), 1, 1, [689, 76, 687, 688]),
  ((yX1_init, cX1_init, 1, none, (4, 120), (1, 12)), 2, 0, [147, 78, 146]),
  ((yX1_copyFrom, cX1_copyFrom, 2, none, (0, 0), (1, 18)), 1, 1, [426, 78, 424, 425]),
  ((yX1_remembered, cX1_remembered, 1, (some .int), (0, 0), (1, 21)), 1, 0, [752, 78, 750, 751]),
  ((yX2_chosenPiece, cX2_chosenPiece, 4, (some .int), (0, 0), (1, 22)), 1, 1, [593, 80, 592, 12]),
  ((yX3_init, cX3_init, 3, none, (2, 16), (1, 12)), 2, 2, [225, 82, 224]),
  ((yX3_begin, cX3_begin, 3, none, (0, 0), (1, 20)), 1, 2, [579, 82, 577, 578]),
  ((yX3_come, cX3_come, 8, none, (0, 0), (1, 26)), 1, 3, [618, 82, 617, 15]),
  ((yX3_copyFrom, cX3_copyFrom, 2, none, (0, 0), (1, 18)), 1, 1, [452, 82, 450, 451]),
  ((yX4_init, cX4_init, 2, none, (3, 420), (1, 12)), 2, 1, [199, 81, 198]),
  ((yX4_byteFor, cX4_byteFor, 3, (some .int), (0, 0), (1, 22)), 1, 2, [605, 81, 603, 604]),
  ((yX4_isCoveredBefore, cX4_isCoveredBefore, 4, (some .boolean), (0, 0), (1, 22)), 1, 2, [668, 81, 667, 18]),
  ((yX4_put, cX4_put, 6, none, (0, 0), (1, 18)), 1, 5, [447, 81, 446, 3]),
  ((yX4_smallestStart, cX4_smallestStart, 3, (some .int), (0, 0), (1, 21)), 1, 0, [676, 81, 674, 675]),
  ((yX5_remove, cX5_remove, 2, none, (0, 0), (1, 23)), 1, 1, [567, 77, 565, 566]),
  ((yX6_init, cX6_init, 1, none, (2, 54), (1, 12)), 2, 0, [178, 79, 177]),
  ((yX6_copyFrom, cX6_copyFrom, 2, none, (0, 0), (1, 18)), 1, 1, [418, 79, 416, 417]),
  ((yX6_definedSet, cX6_definedSet, 3, (some .int), (0, 0), (1, 21)), 1, 0, [762, 79, 760, 761]),
  ((yX6_put, cX6_put, 5, none, (0, 0), (1, 21)), 1, 3, [457, 79, 455, 456]),
  ((yX8_begins, cX8_begins, 2, none, (0, 0), (1, 23)), 1, 0, [928, 83, 927, 31]),
  ((yX8_byteOf, cX8_byteOf, 3, (some .int), (0, 0), (1, 21)), 1, 2, [1032, 83, 1031, 51]),
  ((yX8_covers, cX8_covers, 4, (some .boolean), (0, 0), (1, 21)), 1, 2, [1024, 83, 1023, 49]),
  ((yX8_definedSet, cX8_definedSet, 3, (some .int), (0, 0), (1, 21)), 1, 0, [1153, 83, 1152, 71]),
  ((yX8_drops, cX8_drops, 3, none, (0, 0), (1, 22)), 1, 0, [1085, 83, 1084, 62]),
  ((yX8_endsWith, cX8_endsWith, 6, (some .boolean), (0, 0), (1, 22)), 1, 2, [838, 83, 837, 26]),
  ((yX8_faultOf, cX8_faultOf, 2, (some .int), (0, 0), (1, 22)), 1, 0, [924, 83, 923, 30]),
  ((yX8_find, cX8_find, 3, (some .int), (0, 0), (1, 22)), 1, 2, [1145, 83, 1143, 1144]),
  ((yX8_flow, cX8_flow, 2, (some .int), (0, 0), (1, 21)), 1, 1, [1105, 83, 1103, 1104]),
  ((yX8_has, cX8_has, 2, (some .boolean), (0, 0), (1, 21)), 1, 1, [1051, 83, 1050, 55]),
  ((yX8_hexOf, cX8_hexOf, 1, (some .int), (0, 0), (1, 22)), 0, 1, [1043, 83, 1042]),
  ((yX8_inserts, cX8_inserts, 5, none, (0, 0), (1, 24)), 1, 1, [830, 83, 829, 24]),
  ((yX8_isBetter, cX8_isBetter, 3, (some .boolean), (0, 0), (1, 21)), 1, 2, [1028, 83, 1027, 50]),
  ((yX8_isPossible, cX8_isPossible, 2, (some .boolean), (0, 0), (1, 21)), 1, 1, [1063, 83, 1062, 58]),
  ((yX8_isWord, cX8_isWord, 1, (some .boolean), (0, 0), (1, 22)), 0, 1, [920, 83, 919]),
  ((yX8_laysPossible, cX8_laysPossible, 3, none, (0, 0), (1, 22)), 1, 2, [1073, 83, 1072, 59]),
  ((yX8_longest, cX8_longest, 5, (some .int), (0, 0), (1, 25)), 1, 2, [850, 83, 849, 29]),
  ((yX8_next, cX8_next, 3, (some .int), (0, 0), (1, 22)), 1, 2, [956, 83, 954, 955]),
  ((yX8_node, cX8_node, 3, (some .int), (0, 0), (1, 22)), 1, 2, [952, 83, 950, 951]),
  ((yX8_placeOf, cX8_placeOf, 3, (some .int), (0, 0), (1, 21)), 1, 1, [972, 83, 971, 36]),
  ((yX8_possibleNow, cX8_possibleNow, 1, (some .long), (0, 0), (1, 21)), 1, 0, [1133, 83, 1132, 69]),
  ((yX8_readNow, cX8_readNow, 2, (some .int), (0, 0), (1, 21)), 1, 1, [1141, 83, 1140, 70]),
  ((yX8_records, cX8_records, 5, none, (0, 0), (1, 22)), 1, 3, [1077, 83, 1076, 60]),
  ((yX8_starts, cX8_starts, 6, none, (0, 0), (1, 22)), 1, 4, [988, 83, 987, 40]),
  ((yX8_type, cX8_type, 2, (some .int), (0, 0), (1, 22)), 1, 1, [906, 83, 904, 905]),
  ((yX7_told, cX7_told, 2, (some .int), (0, 0), (2, 43)), 1, 1, [758, 75, 756, 757]),
  ((yX0_addChildren, cX0_addChildren, 7, none, (0, 0), (2, 45)), 1, 3, [475, 76, 474, 5]),
  ((yX0_fewestLettersToWord, cX0_fewestLettersToWord, 5, (some .int), (0, 0), (2, 51)), 1, 1, [789, 76, 787, 788]),
  ((yX0_spread, cX0_spread, 9, (some .long), (0, 0), (2, 51)), 1, 2, [685, 76, 683, 684]),
  ((yX1_tell, cX1_tell, 4, (some .int), (0, 0), (2, 41)), 1, 2, [748, 78, 746, 747]),
  ((yX2_init, cX2_init, 3, none, (11, 879), (2, 34)), 2, 2, [193, 80, 192]),
  ((yX2_begin, cX2_begin, 5, none, (0, 0), (2, 42)), 1, 4, [575, 80, 573, 574]),
  ((yX2_chosenByte, cX2_chosenByte, 2, (some .int), (0, 0), (2, 45)), 1, 1, [726, 80, 724, 725]),
  ((yX2_isDisputed, cX2_isDisputed, 5, (some .boolean), (0, 0), (2, 44)), 1, 2, [610, 80, 609, 14]),
  ((yX3_release, cX3_release, 3, none, (0, 0), (2, 53)), 1, 1, [653, 82, 651, 652]),
  ((yX4_add, cX4_add, 5, none, (0, 0), (2, 43)), 1, 4, [439, 81, 437, 438]),
  ((yX4_coveredFrom, cX4_coveredFrom, 6, (some .int), (0, 0), (2, 45)), 1, 1, [661, 81, 659, 660]),
  ((yX4_dropBefore, cX4_dropBefore, 4, none, (0, 0), (2, 43)), 1, 1, [657, 81, 655, 656]),
  ((yX8_asked, cX8_asked, 3, (some .int), (0, 0), (2, 43)), 1, 1, [1101, 83, 1100, 65]),
  ((yX8_chosen, cX8_chosen, 4, (some .int), (0, 0), (2, 44)), 1, 1, [1020, 83, 1019, 48]),
  ((yX8_isConflict, cX8_isConflict, 5, (some .boolean), (0, 0), (2, 44)), 1, 1, [1036, 83, 1035, 52]),
  ((yX8_lays, cX8_lays, 4, none, (0, 0), (2, 49)), 1, 0, [818, 83, 817, 21]),
  ((yX8_letter, cX8_letter, 3, (some .int), (0, 0), (2, 42)), 1, 2, [948, 83, 946, 947]),
  ((yX8_possibleMany, cX8_possibleMany, 3, (some .int), (0, 0), (2, 42)), 1, 0, [1117, 83, 1116, 67]),
  ((yX8_set, cX8_set, 4, (some .int), (0, 0), (2, 44)), 1, 2, [960, 83, 958, 959]),
  ((yX8_steps, cX8_steps, 5, none, (0, 0), (2, 44)), 1, 1, [1059, 83, 1058, 57]),
  ((yX8_told, cX8_told, 2, (some .int), (0, 0), (2, 43)), 1, 1, [1149, 83, 1147, 1148]),
  ((yX8_wrong, cX8_wrong, 4, (some .int), (0, 0), (2, 43)), 1, 2, [968, 83, 967, 35]),
  ((yX7_byteAt, cX7_byteAt, 4, (some .int), (0, 0), (3, 66)), 1, 2, [722, 75, 720, 721]),
  ((yX7_find, cX7_find, 3, (some .int), (0, 0), (3, 64)), 1, 2, [744, 75, 742, 743]),
  ((yX7_nearest, cX7_nearest, 3, (some .int), (0, 0), (3, 75)), 1, 1, [785, 75, 783, 784]),
  ((yX0_build, cX0_build, 6, none, (0, 0), (3, 71)), 1, 1, [468, 76, 466, 467]),
  ((yX2_end, cX2_end, 1, none, (0, 0), (3, 75)), 1, 0, [698, 80, 696, 697]),
  ((yX2_tell, cX2_tell, 2, (some .int), (0, 0), (3, 70)), 1, 1, [712, 80, 710, 711]),
  ((yX3_skip, cX3_skip, 3, none, (0, 0), (3, 79)), 1, 2, [681, 82, 679, 680]),
  ((yX3_take, cX3_take, 4, none, (0, 0), (3, 75)), 1, 2, [614, 82, 612, 613]),
  ((yX4_copyFrom, cX4_copyFrom, 3, none, (0, 0), (3, 67)), 1, 1, [435, 81, 433, 434]),
  ((yX5_init, cX5_init, 4, none, (53, 3627), (3, 56)), 2, 2, [172, 77, 171]),
  ((yX5_flowOfSegment, cX5_flowOfSegment, 3, (some (.object "TornStreams$Flow")), (0, 0), (3, 66)), 1, 1, [562, 77, 560, 561]),
  ((yX8_init, cX8_init, 1, none, (11, 24425), (3, 72)), 2, 0, [813, 83, 812]),
  ((yX8_byteNow, cX8_byteNow, 3, (some .int), (0, 0), (3, 67)), 1, 1, [1125, 83, 1124, 68]),
  ((yX8_covered, cX8_covered, 6, (some .int), (0, 0), (3, 67)), 1, 1, [1089, 83, 1088, 63]),
  ((yX8_nearest, cX8_nearest, 10, (some .int), (0, 0), (3, 65)), 1, 1, [1173, 83, 1171, 1172]),
  ((yX8_others, cX8_others, 2, (some .int), (0, 0), (3, 72)), 1, 0, [936, 83, 935, 33]),
  ((yX8_possible, cX8_possible, 3, (some .long), (0, 0), (3, 65)), 1, 1, [1129, 83, 1127, 1128]),
  ((yX8_read, cX8_read, 4, (some .int), (0, 0), (3, 65)), 1, 2, [1137, 83, 1135, 1136]),
  ((yX8_reads, cX8_reads, 7, none, (0, 0), (3, 68)), 1, 3, [1055, 83, 1054, 56]),
  ((yX8_undo, cX8_undo, 1, (some .int), (0, 0), (3, 72)), 1, 0, [1177, 83, 1175, 1176]),
  ((yX7_init, cX7_init, 2, none, (382, 25155), (4, 79)), 2, 0, [93, 75, 92]),
  ((yX7_mixedWithFlow, cX7_mixedWithFlow, 6, (some .long), (0, 0), (4, 91)), 0, 2, [808, 75, 807]),
  ((yX7_property, cX7_property, 4, (some .int), (0, 0), (4, 91)), 1, 2, [708, 75, 706, 707]),
  ((yX7_undo, cX7_undo, 2, (some .int), (0, 0), (4, 96)), 1, 0, [794, 75, 792, 793]),
  ((yX7_wordsChanged, cX7_wordsChanged, 2, none, (0, 0), (4, 96)), 1, 0, [464, 75, 463, 4]),
  ((yX2_copyFrom, cX2_copyFrom, 2, none, (0, 0), (4, 89)), 1, 1, [431, 80, 429, 430]),
  ((yX2_deliver, cX2_deliver, 3, none, (0, 0), (4, 98)), 1, 0, [589, 80, 588, 11]),
  ((yX2_skipGap, cX2_skipGap, 2, none, (0, 0), (4, 101)), 1, 0, [672, 80, 671, 19]),
  ((yX8_byteAt, cX8_byteAt, 4, (some .int), (0, 0), (4, 89)), 1, 2, [1121, 83, 1119, 1120]),
  ((yX8_character, cX8_character, 5, none, (0, 0), (4, 94)), 1, 3, [1047, 83, 1046, 54]),
  ((yX8_define, cX8_define, 4, (some .int), (0, 0), (4, 93)), 1, 1, [917, 83, 915, 916]),
  ((yX8_forget, cX8_forget, 2, (some .int), (0, 0), (4, 93)), 1, 1, [944, 83, 942, 943]),
  ((yX8_propertyNow, cX8_propertyNow, 2, (some .int), (0, 0), (4, 92)), 1, 1, [1113, 83, 1112, 66]),
  ((yX7_digest, cX7_digest, 6, (some .long), (0, 0), (5, 116)), 1, 0, [798, 75, 796, 797]),
  ((yX2_accept, cX2_accept, 6, none, (0, 0), (5, 122)), 1, 4, [584, 80, 582, 583]),
  ((yX5_copyFrom, cX5_copyFrom, 3, none, (0, 0), (5, 110)), 1, 1, [414, 77, 412, 413]),
  ((yX8_lets, cX8_lets, 2, none, (0, 0), (5, 118)), 1, 0, [1081, 83, 1080, 61]),
  ((yX8_mixedFlow, cX8_mixedFlow, 7, (some .long), (0, 0), (5, 113)), 1, 2, [1189, 83, 1188, 73]),
  ((yX8_property, cX8_property, 4, (some .int), (0, 0), (5, 113)), 1, 2, [1109, 83, 1107, 1108]),
  ((yX7_handled, cX7_handled, 5, (some .int), (0, 0), (6, 147)), 1, 3, [554, 75, 553, 9]),
  ((yX7_record, cX7_record, 1, none, (0, 0), (6, 132)), 1, 0, [406, 75, 405, 1]),
  ((yX7_wordsBy, cX7_wordsBy, 5, (some .int), (0, 0), (6, 147)), 1, 2, [776, 75, 775, 20]),
  ((yX8_delivers, cX8_delivers, 4, none, (0, 0), (6, 139)), 1, 2, [1040, 83, 1039, 53]),
  ((yX8_digest, cX8_digest, 5, (some .long), (0, 0), (6, 139)), 1, 0, [1181, 83, 1179, 1180]),
  ((yX8_finish, cX8_finish, 3, (some .int), (0, 0), (6, 139)), 1, 1, [1097, 83, 1095, 1096]),
  ((yX8_gap, cX8_gap, 9, none, (0, 0), (6, 139)), 1, 1, [1093, 83, 1092, 64]),
  ((yX7_define, cX7_define, 3, (some .int), (0, 0), (7, 152)), 1, 1, [392, 75, 390, 391]),
  ((yX7_evasions, cX7_evasions, 7, (some .int), (0, 0), (7, 171)), 1, 1, [781, 75, 779, 780]),
  ((yX7_finish, cX7_finish, 4, (some .int), (0, 0), (7, 152)), 1, 1, [694, 75, 692, 693]),
  ((yX7_forget, cX7_forget, 2, (some .int), (0, 0), (7, 152)), 1, 1, [500, 75, 498, 499]),
  ((yX7_ifSegment, cX7_ifSegment, 4, (some .int), (0, 0), (7, 171)), 1, 2, [768, 75, 766, 767]),
  ((yX7_replay, cX7_replay, 4, (some .int), (0, 0), (7, 171)), 1, 2, [772, 75, 770, 771]),
  ((yX7_segment, cX7_segment, 4, (some .int), (0, 0), (7, 171)), 1, 2, [538, 75, 536, 537]),
  ((yX7_set, cX7_set, 4, (some .int), (0, 0), (7, 152)), 1, 2, [530, 75, 528, 529]),
  ((yX8_deliversAll, cX8_deliversAll, 4, none, (0, 0), (7, 162)), 1, 0, [1016, 83, 1015, 47]),
  ((yX8_handles, cX8_handles, 6, none, (0, 0), (8, 185)), 1, 3, [1008, 83, 1007, 45]),
  ((yX8_handlesText, cX8_handlesText, 3, none, (0, 0), (9, 210)), 1, 1, [1004, 83, 1003, 44]),
  ((yX8_replays, cX8_replays, 6, (some .int), (0, 0), (9, 210)), 1, 2, [1165, 83, 1164, 72]),
  ((yX8_evasions, cX8_evasions, 7, (some .int), (0, 0), (10, 235)), 1, 1, [1169, 83, 1167, 1168]),
  ((yX8_replay, cX8_replay, 4, (some .int), (0, 0), (10, 235)), 1, 2, [1161, 83, 1159, 1160]),
  ((yX8_segments, cX8_segments, 7, none, (0, 0), (10, 232)), 1, 2, [976, 83, 975, 37]),
  ((yX8_ifSegment, cX8_ifSegment, 4, (some .int), (0, 0), (11, 258)), 1, 2, [1157, 83, 1155, 1156]),
  ((yX8_segment, cX8_segment, 4, (some .int), (0, 0), (11, 258)), 1, 2, [964, 83, 962, 963]),
  ((yL_law, cL_law, 4, (some .boolean), (600000, 7302250), (14, 562)), 0, 1, [0, 0, 0, 0])]
def jx_ptab : List (List jx_B) := [bk_T_clear, bk_T_dropOldest, bk_T_flow, bk_T_isKey, bk_T_isLetter, bk_T_isWord, bk_T_mixed, bk_T_type, bk_A_has, bk_A_nextOf, bk_A_nextSet, bk_A_wordsOfSet, bk_Fi_add, bk_Fi_made, bk_Fl_isPreferred, bk_R_firstIndexOf, bk_R_hexadecimal, bk_R_isDropped, bk_R_recentCharacter, bk_R_restart, bk_Sg_covers, bk_Sg_isFull, bk_St_movedToEnd, bk_St_placeOf, bk_Wo_isDefined, bk_Wo_letterAt, bk_Wo_remove, bk_M_adds, bk_M_clear, bk_M_copies, bk_M_freeSlot, bk_M_highOf, bk_M_in, bk_M_leaves, bk_M_letterOf, bk_M_lowOf, bk_M_nodeOf, bk_M_of, bk_M_order, bk_M_pieceAt, bk_M_put, bk_M_slot, bk_M_takes, bk_M_wordLength, bk_JI_bitCount, bk_JL_bitCount, bk_JA_fill, bk_T_firstWrongByte, bk_T_letter, bk_T_next, bk_T_node, bk_T_possible, bk_T_read, bk_T_segmentError, bk_A_init, bk_A_added, bk_A_link, bk_A_nextSetByAny, bk_Fi_init, bk_Fi_copyFrom, bk_Fi_remembered, bk_Fl_chosenPiece, bk_R_init, bk_R_begin, bk_R_come, bk_R_copyFrom, bk_Sg_init, bk_Sg_byteFor, bk_Sg_isCoveredBefore, bk_Sg_put, bk_Sg_smallestStart, bk_St_remove, bk_Wo_init, bk_Wo_copyFrom, bk_Wo_definedSet, bk_Wo_put, bk_M_begins, bk_M_byteOf, bk_M_covers, bk_M_definedSet, bk_M_drops, bk_M_endsWith, bk_M_faultOf, bk_M_find, bk_M_flow, bk_M_has, bk_M_hexOf, bk_M_inserts, bk_M_isBetter, bk_M_isPossible, bk_M_isWord, bk_M_laysPossible, bk_M_longest, bk_M_next, bk_M_node, bk_M_placeOf, bk_M_possibleNow, bk_M_readNow, bk_M_records, bk_M_starts, bk_M_type, bk_T_told, bk_A_addChildren, bk_A_fewestLettersToWord, bk_A_spread, bk_Fi_tell, bk_Fl_init, bk_Fl_begin, bk_Fl_chosenByte, bk_Fl_isDisputed, bk_R_release, bk_Sg_add, bk_Sg_coveredFrom, bk_Sg_dropBefore, bk_M_asked, bk_M_chosen, bk_M_isConflict, bk_M_lays, bk_M_letter, bk_M_possibleMany, bk_M_set, bk_M_steps, bk_M_told, bk_M_wrong, bk_T_byteAt, bk_T_find, bk_T_nearest, bk_A_build, bk_Fl_end, bk_Fl_tell, bk_R_skip, bk_R_take, bk_Sg_copyFrom, bk_St_init, bk_St_flowOfSegment, bk_M_init, bk_M_byteNow, bk_M_covered, bk_M_nearest, bk_M_others, bk_M_possible, bk_M_read, bk_M_reads, bk_M_undo, bk_T_init, bk_T_mixedWithFlow, bk_T_property, bk_T_undo, bk_T_wordsChanged, bk_Fl_copyFrom, bk_Fl_deliver, bk_Fl_skipGap, bk_M_byteAt, bk_M_character, bk_M_define, bk_M_forget, bk_M_propertyNow, bk_T_digest, bk_Fl_accept, bk_St_copyFrom, bk_M_lets, bk_M_mixedFlow, bk_M_property, bk_T_handled, bk_T_record, bk_T_wordsBy, bk_M_delivers, bk_M_digest, bk_M_finish, bk_M_gap, bk_T_define, bk_T_evasions, bk_T_finish, bk_T_forget, bk_T_ifSegment, bk_T_replay, bk_T_segment, bk_T_set, bk_M_deliversAll, bk_M_handles, bk_M_handlesText, bk_M_replays, bk_M_evasions, bk_M_replay, bk_M_segments, bk_M_ifSegment, bk_M_segment, bk_L_law]
def jx_d0 : jx_Mt := ((yX7_clear, cX7_clear, 2, (some .int), (0, 0), (0, 0)), 1, 0, [388, 75, 386, 387])
def zz : jx_Z := (fun y => jx_mtab.getD y jx_d0, fun μ b => (jx_ptab.getD μ []).getD b (0, [], []))
def zwp : jx_XX := jx_wp zz
def zcall : jx_C := jx_cl zz (jx_wp zz)
end
section
theorem b_JI_bitCount_0 {x0 : Int32} {bc bs : Nat} {w : jx_W} {Q : jx_Q} (h : Q w (some (.int ((((((((x0 - (((x0.toUInt32 >>> ((1 : Int32).toUInt32 &&& Int32.toUInt32 31)).toInt32) &&& (1431655765 : Int32))) &&& (858993459 : Int32)) + ((((x0 - (((x0.toUInt32 >>> ((1 : Int32).toUInt32 &&& Int32.toUInt32 31)).toInt32) &&& (1431655765 : Int32))).toUInt32 >>> ((2 : Int32).toUInt32 &&& Int32.toUInt32 31)).toInt32) &&& (858993459 : Int32))) + (((((x0 - (((x0.toUInt32 >>> ((1 : Int32).toUInt32 &&& Int32.toUInt32 31)).toInt32) &&& (1431655765 : Int32))) &&& (858993459 : Int32)) + ((((x0 - (((x0.toUInt32 >>> ((1 : Int32).toUInt32 &&& Int32.toUInt32 31)).toInt32) &&& (1431655765 : Int32))).toUInt32 >>> ((2 : Int32).toUInt32 &&& Int32.toUInt32 31)).toInt32) &&& (858993459 : Int32))).toUInt32 >>> ((4 : Int32).toUInt32 &&& Int32.toUInt32 31)).toInt32)) &&& (252645135 : Int32)) + (((((((x0 - (((x0.toUInt32 >>> ((1 : Int32).toUInt32 &&& Int32.toUInt32 31)).toInt32) &&& (1431655765 : Int32))) &&& (858993459 : Int32)) + ((((x0 - (((x0.toUInt32 >>> ((1 : Int32).toUInt32 &&& Int32.toUInt32 31)).toInt32) &&& (1431655765 : Int32))).toUInt32 >>> ((2 : Int32).toUInt32 &&& Int32.toUInt32 31)).toInt32) &&& (858993459 : Int32))) + (((((x0 - (((x0.toUInt32 >>> ((1 : Int32).toUInt32 &&& Int32.toUInt32 31)).toInt32) &&& (1431655765 : Int32))) &&& (858993459 : Int32)) + ((((x0 - (((x0.toUInt32 >>> ((1 : Int32).toUInt32 &&& Int32.toUInt32 31)).toInt32) &&& (1431655765 : Int32))).toUInt32 >>> ((2 : Int32).toUInt32 &&& Int32.toUInt32 31)).toInt32) &&& (858993459 : Int32))).toUInt32 >>> ((4 : Int32).toUInt32 &&& Int32.toUInt32 31)).toInt32)) &&& (252645135 : Int32)).toUInt32 >>> ((8 : Int32).toUInt32 &&& Int32.toUInt32 31)).toInt32)) + ((((((((x0 - (((x0.toUInt32 >>> ((1 : Int32).toUInt32 &&& Int32.toUInt32 31)).toInt32) &&& (1431655765 : Int32))) &&& (858993459 : Int32)) + ((((x0 - (((x0.toUInt32 >>> ((1 : Int32).toUInt32 &&& Int32.toUInt32 31)).toInt32) &&& (1431655765 : Int32))).toUInt32 >>> ((2 : Int32).toUInt32 &&& Int32.toUInt32 31)).toInt32) &&& (858993459 : Int32))) + (((((x0 - (((x0.toUInt32 >>> ((1 : Int32).toUInt32 &&& Int32.toUInt32 31)).toInt32) &&& (1431655765 : Int32))) &&& (858993459 : Int32)) + ((((x0 - (((x0.toUInt32 >>> ((1 : Int32).toUInt32 &&& Int32.toUInt32 31)).toInt32) &&& (1431655765 : Int32))).toUInt32 >>> ((2 : Int32).toUInt32 &&& Int32.toUInt32 31)).toInt32) &&& (858993459 : Int32))).toUInt32 >>> ((4 : Int32).toUInt32 &&& Int32.toUInt32 31)).toInt32)) &&& (252645135 : Int32)) + (((((((x0 - (((x0.toUInt32 >>> ((1 : Int32).toUInt32 &&& Int32.toUInt32 31)).toInt32) &&& (1431655765 : Int32))) &&& (858993459 : Int32)) + ((((x0 - (((x0.toUInt32 >>> ((1 : Int32).toUInt32 &&& Int32.toUInt32 31)).toInt32) &&& (1431655765 : Int32))).toUInt32 >>> ((2 : Int32).toUInt32 &&& Int32.toUInt32 31)).toInt32) &&& (858993459 : Int32))) + (((((x0 - (((x0.toUInt32 >>> ((1 : Int32).toUInt32 &&& Int32.toUInt32 31)).toInt32) &&& (1431655765 : Int32))) &&& (858993459 : Int32)) + ((((x0 - (((x0.toUInt32 >>> ((1 : Int32).toUInt32 &&& Int32.toUInt32 31)).toInt32) &&& (1431655765 : Int32))).toUInt32 >>> ((2 : Int32).toUInt32 &&& Int32.toUInt32 31)).toInt32) &&& (858993459 : Int32))).toUInt32 >>> ((4 : Int32).toUInt32 &&& Int32.toUInt32 31)).toInt32)) &&& (252645135 : Int32)).toUInt32 >>> ((8 : Int32).toUInt32 &&& Int32.toUInt32 31)).toInt32)).toUInt32 >>> ((16 : Int32).toUInt32 &&& Int32.toUInt32 31)).toInt32)) &&& (63 : Int32))))) : zwp n_JI_bitCount 0 [(0, .int x0)] [] bc bs w Q := jx_unfold (Z := zz) h
theorem e_JI_bitCount {x0 : Int32} {w : jx_W} {Q : jx_Q} (h : zwp n_JI_bitCount 0 [(0, .int x0)] [] 0 0 w Q) : zcall n_JI_bitCount [.int x0] w Q := h
theorem b_JL_bitCount_0 {y0 : Int64} {bc bs : Nat} {w : jx_W} {Q : jx_Q} (h : Q w (some (.int ((((((((((y0 - (((y0.toUInt64 >>> ((1 : Int32).toInt64.toUInt64 &&& Int64.toUInt64 63)).toInt64) &&& (6148914691236517205 : Int64))) &&& (3689348814741910323 : Int64)) + ((((y0 - (((y0.toUInt64 >>> ((1 : Int32).toInt64.toUInt64 &&& Int64.toUInt64 63)).toInt64) &&& (6148914691236517205 : Int64))).toUInt64 >>> ((2 : Int32).toInt64.toUInt64 &&& Int64.toUInt64 63)).toInt64) &&& (3689348814741910323 : Int64))) + (((((y0 - (((y0.toUInt64 >>> ((1 : Int32).toInt64.toUInt64 &&& Int64.toUInt64 63)).toInt64) &&& (6148914691236517205 : Int64))) &&& (3689348814741910323 : Int64)) + ((((y0 - (((y0.toUInt64 >>> ((1 : Int32).toInt64.toUInt64 &&& Int64.toUInt64 63)).toInt64) &&& (6148914691236517205 : Int64))).toUInt64 >>> ((2 : Int32).toInt64.toUInt64 &&& Int64.toUInt64 63)).toInt64) &&& (3689348814741910323 : Int64))).toUInt64 >>> ((4 : Int32).toInt64.toUInt64 &&& Int64.toUInt64 63)).toInt64)) &&& (1085102592571150095 : Int64)) + (((((((y0 - (((y0.toUInt64 >>> ((1 : Int32).toInt64.toUInt64 &&& Int64.toUInt64 63)).toInt64) &&& (6148914691236517205 : Int64))) &&& (3689348814741910323 : Int64)) + ((((y0 - (((y0.toUInt64 >>> ((1 : Int32).toInt64.toUInt64 &&& Int64.toUInt64 63)).toInt64) &&& (6148914691236517205 : Int64))).toUInt64 >>> ((2 : Int32).toInt64.toUInt64 &&& Int64.toUInt64 63)).toInt64) &&& (3689348814741910323 : Int64))) + (((((y0 - (((y0.toUInt64 >>> ((1 : Int32).toInt64.toUInt64 &&& Int64.toUInt64 63)).toInt64) &&& (6148914691236517205 : Int64))) &&& (3689348814741910323 : Int64)) + ((((y0 - (((y0.toUInt64 >>> ((1 : Int32).toInt64.toUInt64 &&& Int64.toUInt64 63)).toInt64) &&& (6148914691236517205 : Int64))).toUInt64 >>> ((2 : Int32).toInt64.toUInt64 &&& Int64.toUInt64 63)).toInt64) &&& (3689348814741910323 : Int64))).toUInt64 >>> ((4 : Int32).toInt64.toUInt64 &&& Int64.toUInt64 63)).toInt64)) &&& (1085102592571150095 : Int64)).toUInt64 >>> ((8 : Int32).toInt64.toUInt64 &&& Int64.toUInt64 63)).toInt64)) + ((((((((y0 - (((y0.toUInt64 >>> ((1 : Int32).toInt64.toUInt64 &&& Int64.toUInt64 63)).toInt64) &&& (6148914691236517205 : Int64))) &&& (3689348814741910323 : Int64)) + ((((y0 - (((y0.toUInt64 >>> ((1 : Int32).toInt64.toUInt64 &&& Int64.toUInt64 63)).toInt64) &&& (6148914691236517205 : Int64))).toUInt64 >>> ((2 : Int32).toInt64.toUInt64 &&& Int64.toUInt64 63)).toInt64) &&& (3689348814741910323 : Int64))) + (((((y0 - (((y0.toUInt64 >>> ((1 : Int32).toInt64.toUInt64 &&& Int64.toUInt64 63)).toInt64) &&& (6148914691236517205 : Int64))) &&& (3689348814741910323 : Int64)) + ((((y0 - (((y0.toUInt64 >>> ((1 : Int32).toInt64.toUInt64 &&& Int64.toUInt64 63)).toInt64) &&& (6148914691236517205 : Int64))).toUInt64 >>> ((2 : Int32).toInt64.toUInt64 &&& Int64.toUInt64 63)).toInt64) &&& (3689348814741910323 : Int64))).toUInt64 >>> ((4 : Int32).toInt64.toUInt64 &&& Int64.toUInt64 63)).toInt64)) &&& (1085102592571150095 : Int64)) + (((((((y0 - (((y0.toUInt64 >>> ((1 : Int32).toInt64.toUInt64 &&& Int64.toUInt64 63)).toInt64) &&& (6148914691236517205 : Int64))) &&& (3689348814741910323 : Int64)) + ((((y0 - (((y0.toUInt64 >>> ((1 : Int32).toInt64.toUInt64 &&& Int64.toUInt64 63)).toInt64) &&& (6148914691236517205 : Int64))).toUInt64 >>> ((2 : Int32).toInt64.toUInt64 &&& Int64.toUInt64 63)).toInt64) &&& (3689348814741910323 : Int64))) + (((((y0 - (((y0.toUInt64 >>> ((1 : Int32).toInt64.toUInt64 &&& Int64.toUInt64 63)).toInt64) &&& (6148914691236517205 : Int64))) &&& (3689348814741910323 : Int64)) + ((((y0 - (((y0.toUInt64 >>> ((1 : Int32).toInt64.toUInt64 &&& Int64.toUInt64 63)).toInt64) &&& (6148914691236517205 : Int64))).toUInt64 >>> ((2 : Int32).toInt64.toUInt64 &&& Int64.toUInt64 63)).toInt64) &&& (3689348814741910323 : Int64))).toUInt64 >>> ((4 : Int32).toInt64.toUInt64 &&& Int64.toUInt64 63)).toInt64)) &&& (1085102592571150095 : Int64)).toUInt64 >>> ((8 : Int32).toInt64.toUInt64 &&& Int64.toUInt64 63)).toInt64)).toUInt64 >>> ((16 : Int32).toInt64.toUInt64 &&& Int64.toUInt64 63)).toInt64)) + (((((((((y0 - (((y0.toUInt64 >>> ((1 : Int32).toInt64.toUInt64 &&& Int64.toUInt64 63)).toInt64) &&& (6148914691236517205 : Int64))) &&& (3689348814741910323 : Int64)) + ((((y0 - (((y0.toUInt64 >>> ((1 : Int32).toInt64.toUInt64 &&& Int64.toUInt64 63)).toInt64) &&& (6148914691236517205 : Int64))).toUInt64 >>> ((2 : Int32).toInt64.toUInt64 &&& Int64.toUInt64 63)).toInt64) &&& (3689348814741910323 : Int64))) + (((((y0 - (((y0.toUInt64 >>> ((1 : Int32).toInt64.toUInt64 &&& Int64.toUInt64 63)).toInt64) &&& (6148914691236517205 : Int64))) &&& (3689348814741910323 : Int64)) + ((((y0 - (((y0.toUInt64 >>> ((1 : Int32).toInt64.toUInt64 &&& Int64.toUInt64 63)).toInt64) &&& (6148914691236517205 : Int64))).toUInt64 >>> ((2 : Int32).toInt64.toUInt64 &&& Int64.toUInt64 63)).toInt64) &&& (3689348814741910323 : Int64))).toUInt64 >>> ((4 : Int32).toInt64.toUInt64 &&& Int64.toUInt64 63)).toInt64)) &&& (1085102592571150095 : Int64)) + (((((((y0 - (((y0.toUInt64 >>> ((1 : Int32).toInt64.toUInt64 &&& Int64.toUInt64 63)).toInt64) &&& (6148914691236517205 : Int64))) &&& (3689348814741910323 : Int64)) + ((((y0 - (((y0.toUInt64 >>> ((1 : Int32).toInt64.toUInt64 &&& Int64.toUInt64 63)).toInt64) &&& (6148914691236517205 : Int64))).toUInt64 >>> ((2 : Int32).toInt64.toUInt64 &&& Int64.toUInt64 63)).toInt64) &&& (3689348814741910323 : Int64))) + (((((y0 - (((y0.toUInt64 >>> ((1 : Int32).toInt64.toUInt64 &&& Int64.toUInt64 63)).toInt64) &&& (6148914691236517205 : Int64))) &&& (3689348814741910323 : Int64)) + ((((y0 - (((y0.toUInt64 >>> ((1 : Int32).toInt64.toUInt64 &&& Int64.toUInt64 63)).toInt64) &&& (6148914691236517205 : Int64))).toUInt64 >>> ((2 : Int32).toInt64.toUInt64 &&& Int64.toUInt64 63)).toInt64) &&& (3689348814741910323 : Int64))).toUInt64 >>> ((4 : Int32).toInt64.toUInt64 &&& Int64.toUInt64 63)).toInt64)) &&& (1085102592571150095 : Int64)).toUInt64 >>> ((8 : Int32).toInt64.toUInt64 &&& Int64.toUInt64 63)).toInt64)) + ((((((((y0 - (((y0.toUInt64 >>> ((1 : Int32).toInt64.toUInt64 &&& Int64.toUInt64 63)).toInt64) &&& (6148914691236517205 : Int64))) &&& (3689348814741910323 : Int64)) + ((((y0 - (((y0.toUInt64 >>> ((1 : Int32).toInt64.toUInt64 &&& Int64.toUInt64 63)).toInt64) &&& (6148914691236517205 : Int64))).toUInt64 >>> ((2 : Int32).toInt64.toUInt64 &&& Int64.toUInt64 63)).toInt64) &&& (3689348814741910323 : Int64))) + (((((y0 - (((y0.toUInt64 >>> ((1 : Int32).toInt64.toUInt64 &&& Int64.toUInt64 63)).toInt64) &&& (6148914691236517205 : Int64))) &&& (3689348814741910323 : Int64)) + ((((y0 - (((y0.toUInt64 >>> ((1 : Int32).toInt64.toUInt64 &&& Int64.toUInt64 63)).toInt64) &&& (6148914691236517205 : Int64))).toUInt64 >>> ((2 : Int32).toInt64.toUInt64 &&& Int64.toUInt64 63)).toInt64) &&& (3689348814741910323 : Int64))).toUInt64 >>> ((4 : Int32).toInt64.toUInt64 &&& Int64.toUInt64 63)).toInt64)) &&& (1085102592571150095 : Int64)) + (((((((y0 - (((y0.toUInt64 >>> ((1 : Int32).toInt64.toUInt64 &&& Int64.toUInt64 63)).toInt64) &&& (6148914691236517205 : Int64))) &&& (3689348814741910323 : Int64)) + ((((y0 - (((y0.toUInt64 >>> ((1 : Int32).toInt64.toUInt64 &&& Int64.toUInt64 63)).toInt64) &&& (6148914691236517205 : Int64))).toUInt64 >>> ((2 : Int32).toInt64.toUInt64 &&& Int64.toUInt64 63)).toInt64) &&& (3689348814741910323 : Int64))) + (((((y0 - (((y0.toUInt64 >>> ((1 : Int32).toInt64.toUInt64 &&& Int64.toUInt64 63)).toInt64) &&& (6148914691236517205 : Int64))) &&& (3689348814741910323 : Int64)) + ((((y0 - (((y0.toUInt64 >>> ((1 : Int32).toInt64.toUInt64 &&& Int64.toUInt64 63)).toInt64) &&& (6148914691236517205 : Int64))).toUInt64 >>> ((2 : Int32).toInt64.toUInt64 &&& Int64.toUInt64 63)).toInt64) &&& (3689348814741910323 : Int64))).toUInt64 >>> ((4 : Int32).toInt64.toUInt64 &&& Int64.toUInt64 63)).toInt64)) &&& (1085102592571150095 : Int64)).toUInt64 >>> ((8 : Int32).toInt64.toUInt64 &&& Int64.toUInt64 63)).toInt64)).toUInt64 >>> ((16 : Int32).toInt64.toUInt64 &&& Int64.toUInt64 63)).toInt64)).toUInt64 >>> ((32 : Int32).toInt64.toUInt64 &&& Int64.toUInt64 63)).toInt64)).toInt32) &&& (127 : Int32))))) : zwp n_JL_bitCount 0 [(0, .long y0)] [] bc bs w Q := jx_unfold (Z := zz) h
theorem e_JL_bitCount {y0 : Int64} {w : jx_W} {Q : jx_Q} (h : zwp n_JL_bitCount 0 [(0, .long y0)] [] 0 0 w Q) : zcall n_JL_bitCount [.long y0] w Q := h
theorem b_JA_fill_0 {a0 : Nat} {x1 : Int32} {bc bs : Nat} {w : jx_W} {Q : jx_Q} (h : ∃ (n101 : Nat) (f102 : Nat → Int32), jx_ia w a0 n101 f102 ∧ zwp n_JA_fill 1 [(0, .ref a0), (1, .int x1), (2, .int (0 : Int32)), (3, .int (Int32.ofNat n101))] [] bc bs w Q) : zwp n_JA_fill 0 [(0, .ref a0), (1, .int x1)] [] bc bs w Q := jx_unfold (Z := zz) h
theorem e_JA_fill {a0 : Nat} {x1 : Int32} {w : jx_W} {Q : jx_Q} (h : zwp n_JA_fill 0 [(0, .ref a0), (1, .int x1)] [] 0 0 w Q) : zcall n_JA_fill [.ref a0, .int x1] w Q := h
theorem b_JA_fill_1 {a0 : Nat} {x1 : Int32} {x2 : Int32} {x3 : Int32} {bc bs : Nat} {w : jx_W} {Q : jx_Q} (h : (x3 ≤ x2 → zwp n_JA_fill 2 [] [] bc bs w Q) ∧ (¬ x3 ≤ x2 → ∃ (n101 : Nat) (f102 : Nat → Int32), jx_ia w a0 n101 f102 ∧ vp_in x2 n101 ∧ zwp n_JA_fill 1 [(0, .ref a0), (1, .int x1), (2, .int (x2 + (1 : Int32))), (3, .int x3)] [] bc bs (jx_uia w a0 n101 (upd f102 x2.toNatClampNeg x1)) Q)) : zwp n_JA_fill 1 [(0, .ref a0), (1, .int x1), (2, .int x2), (3, .int x3)] [] bc bs w Q := jx_unfold (Z := zz) h
theorem b_JA_fill_2  {bc bs : Nat} {w : jx_W} {Q : jx_Q} (h : Q w none) : zwp n_JA_fill 2 [] [] bc bs w Q := jx_unfold (Z := zz) h
end
