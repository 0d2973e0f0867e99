section
-- ===== PART A: goes FIRST, ahead of the names: the tables' words, and 'selects' of the private methods out of them =====
/-- a private method of a class that the tables say can be made, by its rows of tables_1 -/
def lw_okq (q : MethodName × Nat) : Prop := (q.1.cls ≠ "java/lang/invoke/MethodHandle" ∧ q.1.cls ≠ "java/lang/invoke/VarHandle") ∧ Cond.instantiable q.1.cls q.2 ∈ tables_1 ∧ Cond.privateMethod q.1 ∈ tables_1 ∧ Cond.instanceMethod q.1 ∈ tables_1
theorem lw_p0 : lw_okq (⟨"TornStreams", "firstWrongByte", "()I"⟩, 8) := ⟨⟨by decide +kernel, by decide +kernel⟩, List.mem_of_getElem? (i := 16) (by decide +kernel), List.mem_of_getElem? (i := 323) (by decide +kernel), List.mem_of_getElem? (i := 324) (by decide +kernel)⟩
theorem lw_p1 : lw_okq (⟨"TornStreams", "record", "()V"⟩, 8) := ⟨⟨by decide +kernel, by decide +kernel⟩, List.mem_of_getElem? (i := 16) (by decide +kernel), List.mem_of_getElem? (i := 330) (by decide +kernel), List.mem_of_getElem? (i := 331) (by decide +kernel)⟩
theorem lw_p2 : lw_okq (⟨"TornStreams", "dropOldest", "()V"⟩, 8) := ⟨⟨by decide +kernel, by decide +kernel⟩, List.mem_of_getElem? (i := 16) (by decide +kernel), List.mem_of_getElem? (i := 334) (by decide +kernel), List.mem_of_getElem? (i := 335) (by decide +kernel)⟩
theorem lw_p3 : lw_okq (⟨"TornStreams$Segments", "put", "(I[BIII)V"⟩, 4) := ⟨⟨by decide +kernel, by decide +kernel⟩, List.mem_of_getElem? (i := 122) (by decide +kernel), List.mem_of_getElem? (i := 371) (by decide +kernel), List.mem_of_getElem? (i := 372) (by decide +kernel)⟩
theorem lw_p4 : lw_okq (⟨"TornStreams", "wordsChanged", "()V"⟩, 8) := ⟨⟨by decide +kernel, by decide +kernel⟩, List.mem_of_getElem? (i := 16) (by decide +kernel), List.mem_of_getElem? (i := 388) (by decide +kernel), List.mem_of_getElem? (i := 389) (by decide +kernel)⟩
theorem lw_p5 : lw_okq (⟨"TornStreams$Automaton", "addChildren", "(LTornStreams$Words;II)V"⟩, 9) := ⟨⟨by decide +kernel, by decide +kernel⟩, List.mem_of_getElem? (i := 24) (by decide +kernel), List.mem_of_getElem? (i := 399) (by decide +kernel), List.mem_of_getElem? (i := 400) (by decide +kernel)⟩
theorem lw_p6 : lw_okq (⟨"TornStreams$Automaton", "added", "(III)I"⟩, 9) := ⟨⟨by decide +kernel, by decide +kernel⟩, List.mem_of_getElem? (i := 24) (by decide +kernel), List.mem_of_getElem? (i := 407) (by decide +kernel), List.mem_of_getElem? (i := 408) (by decide +kernel)⟩
theorem lw_p7 : lw_okq (⟨"TornStreams$Automaton", "link", "(I)V"⟩, 9) := ⟨⟨by decide +kernel, by decide +kernel⟩, List.mem_of_getElem? (i := 24) (by decide +kernel), List.mem_of_getElem? (i := 412) (by decide +kernel), List.mem_of_getElem? (i := 413) (by decide +kernel)⟩
theorem lw_p8 : lw_okq (⟨"TornStreams", "segmentError", "(II)I"⟩, 8) := ⟨⟨by decide +kernel, by decide +kernel⟩, List.mem_of_getElem? (i := 16) (by decide +kernel), List.mem_of_getElem? (i := 466) (by decide +kernel), List.mem_of_getElem? (i := 467) (by decide +kernel)⟩
theorem lw_p9 : lw_okq (⟨"TornStreams", "handled", "(LTornStreams$State;II)I"⟩, 8) := ⟨⟨by decide +kernel, by decide +kernel⟩, List.mem_of_getElem? (i := 16) (by decide +kernel), List.mem_of_getElem? (i := 478) (by decide +kernel), List.mem_of_getElem? (i := 479) (by decide +kernel)⟩
theorem lw_p10 : lw_okq (⟨"TornStreams$State", "movedToEnd", "(I)LTornStreams$Flow;"⟩, 6) := ⟨⟨by decide +kernel, by decide +kernel⟩, List.mem_of_getElem? (i := 68) (by decide +kernel), List.mem_of_getElem? (i := 495) (by decide +kernel), List.mem_of_getElem? (i := 496) (by decide +kernel)⟩
theorem lw_p11 : lw_okq (⟨"TornStreams$Flow", "deliver", "()V"⟩, 12) := ⟨⟨by decide +kernel, by decide +kernel⟩, List.mem_of_getElem? (i := 116) (by decide +kernel), List.mem_of_getElem? (i := 513) (by decide +kernel), List.mem_of_getElem? (i := 514) (by decide +kernel)⟩
theorem lw_p12 : lw_okq (⟨"TornStreams$Flow", "chosenPiece", "(I)I"⟩, 12) := ⟨⟨by decide +kernel, by decide +kernel⟩, List.mem_of_getElem? (i := 116) (by decide +kernel), List.mem_of_getElem? (i := 517) (by decide +kernel), List.mem_of_getElem? (i := 518) (by decide +kernel)⟩
theorem lw_p13 : lw_okq (⟨"TornStreams$Flow", "isPreferred", "(II)Z"⟩, 12) := ⟨⟨by decide +kernel, by decide +kernel⟩, List.mem_of_getElem? (i := 116) (by decide +kernel), List.mem_of_getElem? (i := 525) (by decide +kernel), List.mem_of_getElem? (i := 526) (by decide +kernel)⟩
theorem lw_p14 : lw_okq (⟨"TornStreams$Flow", "isDisputed", "(II)Z"⟩, 12) := ⟨⟨by decide +kernel, by decide +kernel⟩, List.mem_of_getElem? (i := 116) (by decide +kernel), List.mem_of_getElem? (i := 534) (by decide +kernel), List.mem_of_getElem? (i := 535) (by decide +kernel)⟩
theorem lw_p15 : lw_okq (⟨"TornStreams$Reader", "come", "(III)V"⟩, 15) := ⟨⟨by decide +kernel, by decide +kernel⟩, List.mem_of_getElem? (i := 148) (by decide +kernel), List.mem_of_getElem? (i := 542) (by decide +kernel), List.mem_of_getElem? (i := 543) (by decide +kernel)⟩
def lw_privs_1 : List (MethodName × Nat) := [(⟨"TornStreams", "firstWrongByte", "()I"⟩, 8), (⟨"TornStreams", "record", "()V"⟩, 8), (⟨"TornStreams", "dropOldest", "()V"⟩, 8), (⟨"TornStreams$Segments", "put", "(I[BIII)V"⟩, 4), (⟨"TornStreams", "wordsChanged", "()V"⟩, 8), (⟨"TornStreams$Automaton", "addChildren", "(LTornStreams$Words;II)V"⟩, 9), (⟨"TornStreams$Automaton", "added", "(III)I"⟩, 9), (⟨"TornStreams$Automaton", "link", "(I)V"⟩, 9), (⟨"TornStreams", "segmentError", "(II)I"⟩, 8), (⟨"TornStreams", "handled", "(LTornStreams$State;II)I"⟩, 8), (⟨"TornStreams$State", "movedToEnd", "(I)LTornStreams$Flow;"⟩, 6), (⟨"TornStreams$Flow", "deliver", "()V"⟩, 12), (⟨"TornStreams$Flow", "chosenPiece", "(I)I"⟩, 12), (⟨"TornStreams$Flow", "isPreferred", "(II)Z"⟩, 12), (⟨"TornStreams$Flow", "isDisputed", "(II)Z"⟩, 12), (⟨"TornStreams$Reader", "come", "(III)V"⟩, 15)]
theorem lw_r1 : ∀ q ∈ lw_privs_1, lw_okq q := List.forall_mem_cons.mpr ⟨lw_p0, List.forall_mem_cons.mpr ⟨lw_p1, List.forall_mem_cons.mpr ⟨lw_p2, List.forall_mem_cons.mpr ⟨lw_p3, List.forall_mem_cons.mpr ⟨lw_p4, List.forall_mem_cons.mpr ⟨lw_p5, List.forall_mem_cons.mpr ⟨lw_p6, List.forall_mem_cons.mpr ⟨lw_p7, List.forall_mem_cons.mpr ⟨lw_p8, List.forall_mem_cons.mpr ⟨lw_p9, List.forall_mem_cons.mpr ⟨lw_p10, List.forall_mem_cons.mpr ⟨lw_p11, List.forall_mem_cons.mpr ⟨lw_p12, List.forall_mem_cons.mpr ⟨lw_p13, List.forall_mem_cons.mpr ⟨lw_p14, List.forall_mem_cons.mpr ⟨lw_p15, fun _ h => absurd h List.not_mem_nil⟩⟩⟩⟩⟩⟩⟩⟩⟩⟩⟩⟩⟩⟩⟩⟩
theorem lw_p16 : lw_okq (⟨"TornStreams$Reader", "isDropped", "(I)Z"⟩, 15) := ⟨⟨by decide +kernel, by decide +kernel⟩, List.mem_of_getElem? (i := 148) (by decide +kernel), List.mem_of_getElem? (i := 546) (by decide +kernel), List.mem_of_getElem? (i := 547) (by decide +kernel)⟩
theorem lw_p17 : lw_okq (⟨"TornStreams$Reader", "firstIndexOf", "(I)I"⟩, 15) := ⟨⟨by decide +kernel, by decide +kernel⟩, List.mem_of_getElem? (i := 148) (by decide +kernel), List.mem_of_getElem? (i := 560) (by decide +kernel), List.mem_of_getElem? (i := 561) (by decide +kernel)⟩
theorem lw_p18 : lw_okq (⟨"TornStreams$Segments", "isCoveredBefore", "(II)Z"⟩, 4) := ⟨⟨by decide +kernel, by decide +kernel⟩, List.mem_of_getElem? (i := 122) (by decide +kernel), List.mem_of_getElem? (i := 592) (by decide +kernel), List.mem_of_getElem? (i := 593) (by decide +kernel)⟩
theorem lw_p19 : lw_okq (⟨"TornStreams$Flow", "skipGap", "()V"⟩, 12) := ⟨⟨by decide +kernel, by decide +kernel⟩, List.mem_of_getElem? (i := 116) (by decide +kernel), List.mem_of_getElem? (i := 596) (by decide +kernel), List.mem_of_getElem? (i := 597) (by decide +kernel)⟩
theorem lw_p20 : lw_okq (⟨"TornStreams", "wordsBy", "(LTornStreams$Flow;I)I"⟩, 8) := ⟨⟨by decide +kernel, by decide +kernel⟩, List.mem_of_getElem? (i := 16) (by decide +kernel), List.mem_of_getElem? (i := 700) (by decide +kernel), List.mem_of_getElem? (i := 701) (by decide +kernel)⟩
theorem lw_p21 : lw_okq (⟨"TornStreamsModel", "lays", "()V"⟩, 17) := ⟨⟨by decide +kernel, by decide +kernel⟩, List.mem_of_getElem? (i := 736) (by decide +kernel), List.mem_of_getElem? (i := 742) (by decide +kernel), List.mem_of_getElem? (i := 743) (by decide +kernel)⟩
theorem lw_p22 : lw_okq (⟨"TornStreamsModel", "wordLength", "(I)I"⟩, 17) := ⟨⟨by decide +kernel, by decide +kernel⟩, List.mem_of_getElem? (i := 736) (by decide +kernel), List.mem_of_getElem? (i := 746) (by decide +kernel), List.mem_of_getElem? (i := 747) (by decide +kernel)⟩
theorem lw_p23 : lw_okq (⟨"TornStreamsModel", "letterOf", "(II)I"⟩, 17) := ⟨⟨by decide +kernel, by decide +kernel⟩, List.mem_of_getElem? (i := 736) (by decide +kernel), List.mem_of_getElem? (i := 750) (by decide +kernel), List.mem_of_getElem? (i := 751) (by decide +kernel)⟩
theorem lw_p24 : lw_okq (⟨"TornStreamsModel", "inserts", "(I)V"⟩, 17) := ⟨⟨by decide +kernel, by decide +kernel⟩, List.mem_of_getElem? (i := 736) (by decide +kernel), List.mem_of_getElem? (i := 754) (by decide +kernel), List.mem_of_getElem? (i := 755) (by decide +kernel)⟩
theorem lw_p25 : lw_okq (⟨"TornStreamsModel", "order", "(II)I"⟩, 17) := ⟨⟨by decide +kernel, by decide +kernel⟩, List.mem_of_getElem? (i := 736) (by decide +kernel), List.mem_of_getElem? (i := 758) (by decide +kernel), List.mem_of_getElem? (i := 759) (by decide +kernel)⟩
theorem lw_p26 : lw_okq (⟨"TornStreamsModel", "endsWith", "(II)Z"⟩, 17) := ⟨⟨by decide +kernel, by decide +kernel⟩, List.mem_of_getElem? (i := 736) (by decide +kernel), List.mem_of_getElem? (i := 762) (by decide +kernel), List.mem_of_getElem? (i := 763) (by decide +kernel)⟩
theorem lw_p27 : lw_okq (⟨"TornStreamsModel", "takes", "(I)V"⟩, 17) := ⟨⟨by decide +kernel, by decide +kernel⟩, List.mem_of_getElem? (i := 736) (by decide +kernel), List.mem_of_getElem? (i := 766) (by decide +kernel), List.mem_of_getElem? (i := 767) (by decide +kernel)⟩
theorem lw_p28 : lw_okq (⟨"TornStreamsModel", "nodeOf", "(II)I"⟩, 17) := ⟨⟨by decide +kernel, by decide +kernel⟩, List.mem_of_getElem? (i := 736) (by decide +kernel), List.mem_of_getElem? (i := 770) (by decide +kernel), List.mem_of_getElem? (i := 771) (by decide +kernel)⟩
theorem lw_p29 : lw_okq (⟨"TornStreamsModel", "longest", "(II)I"⟩, 17) := ⟨⟨by decide +kernel, by decide +kernel⟩, List.mem_of_getElem? (i := 736) (by decide +kernel), List.mem_of_getElem? (i := 774) (by decide +kernel), List.mem_of_getElem? (i := 775) (by decide +kernel)⟩
theorem lw_p30 : lw_okq (⟨"TornStreamsModel", "faultOf", "()I"⟩, 17) := ⟨⟨by decide +kernel, by decide +kernel⟩, List.mem_of_getElem? (i := 736) (by decide +kernel), List.mem_of_getElem? (i := 848) (by decide +kernel), List.mem_of_getElem? (i := 849) (by decide +kernel)⟩
theorem lw_p31 : lw_okq (⟨"TornStreamsModel", "begins", "()V"⟩, 17) := ⟨⟨by decide +kernel, by decide +kernel⟩, List.mem_of_getElem? (i := 736) (by decide +kernel), List.mem_of_getElem? (i := 852) (by decide +kernel), List.mem_of_getElem? (i := 853) (by decide +kernel)⟩
def lw_privs_2 : List (MethodName × Nat) := [(⟨"TornStreams$Reader", "isDropped", "(I)Z"⟩, 15), (⟨"TornStreams$Reader", "firstIndexOf", "(I)I"⟩, 15), (⟨"TornStreams$Segments", "isCoveredBefore", "(II)Z"⟩, 4), (⟨"TornStreams$Flow", "skipGap", "()V"⟩, 12), (⟨"TornStreams", "wordsBy", "(LTornStreams$Flow;I)I"⟩, 8), (⟨"TornStreamsModel", "lays", "()V"⟩, 17), (⟨"TornStreamsModel", "wordLength", "(I)I"⟩, 17), (⟨"TornStreamsModel", "letterOf", "(II)I"⟩, 17), (⟨"TornStreamsModel", "inserts", "(I)V"⟩, 17), (⟨"TornStreamsModel", "order", "(II)I"⟩, 17), (⟨"TornStreamsModel", "endsWith", "(II)Z"⟩, 17), (⟨"TornStreamsModel", "takes", "(I)V"⟩, 17), (⟨"TornStreamsModel", "nodeOf", "(II)I"⟩, 17), (⟨"TornStreamsModel", "longest", "(II)I"⟩, 17), (⟨"TornStreamsModel", "faultOf", "()I"⟩, 17), (⟨"TornStreamsModel", "begins", "()V"⟩, 17)]
theorem lw_r2 : ∀ q ∈ lw_privs_2, lw_okq q := List.forall_mem_cons.mpr ⟨lw_p16, List.forall_mem_cons.mpr ⟨lw_p17, List.forall_mem_cons.mpr ⟨lw_p18, List.forall_mem_cons.mpr ⟨lw_p19, List.forall_mem_cons.mpr ⟨lw_p20, List.forall_mem_cons.mpr ⟨lw_p21, List.forall_mem_cons.mpr ⟨lw_p22, List.forall_mem_cons.mpr ⟨lw_p23, List.forall_mem_cons.mpr ⟨lw_p24, List.forall_mem_cons.mpr ⟨lw_p25, List.forall_mem_cons.mpr ⟨lw_p26, List.forall_mem_cons.mpr ⟨lw_p27, List.forall_mem_cons.mpr ⟨lw_p28, List.forall_mem_cons.mpr ⟨lw_p29, List.forall_mem_cons.mpr ⟨lw_p30, List.forall_mem_cons.mpr ⟨lw_p31, fun _ h => absurd h List.not_mem_nil⟩⟩⟩⟩⟩⟩⟩⟩⟩⟩⟩⟩⟩⟩⟩⟩
theorem lw_p32 : lw_okq (⟨"TornStreamsModel", "copies", "(II)V"⟩, 17) := ⟨⟨by decide +kernel, by decide +kernel⟩, List.mem_of_getElem? (i := 736) (by decide +kernel), List.mem_of_getElem? (i := 856) (by decide +kernel), List.mem_of_getElem? (i := 857) (by decide +kernel)⟩
theorem lw_p33 : lw_okq (⟨"TornStreamsModel", "others", "()I"⟩, 17) := ⟨⟨by decide +kernel, by decide +kernel⟩, List.mem_of_getElem? (i := 736) (by decide +kernel), List.mem_of_getElem? (i := 860) (by decide +kernel), List.mem_of_getElem? (i := 861) (by decide +kernel)⟩
theorem lw_p34 : lw_okq (⟨"TornStreamsModel", "slot", "(I)I"⟩, 17) := ⟨⟨by decide +kernel, by decide +kernel⟩, List.mem_of_getElem? (i := 736) (by decide +kernel), List.mem_of_getElem? (i := 864) (by decide +kernel), List.mem_of_getElem? (i := 865) (by decide +kernel)⟩
theorem lw_p35 : lw_okq (⟨"TornStreamsModel", "wrong", "(II)I"⟩, 17) := ⟨⟨by decide +kernel, by decide +kernel⟩, List.mem_of_getElem? (i := 736) (by decide +kernel), List.mem_of_getElem? (i := 892) (by decide +kernel), List.mem_of_getElem? (i := 893) (by decide +kernel)⟩
theorem lw_p36 : lw_okq (⟨"TornStreamsModel", "placeOf", "(I)I"⟩, 17) := ⟨⟨by decide +kernel, by decide +kernel⟩, List.mem_of_getElem? (i := 736) (by decide +kernel), List.mem_of_getElem? (i := 896) (by decide +kernel), List.mem_of_getElem? (i := 897) (by decide +kernel)⟩
theorem lw_p37 : lw_okq (⟨"TornStreamsModel", "segments", "(II)V"⟩, 17) := ⟨⟨by decide +kernel, by decide +kernel⟩, List.mem_of_getElem? (i := 736) (by decide +kernel), List.mem_of_getElem? (i := 900) (by decide +kernel), List.mem_of_getElem? (i := 901) (by decide +kernel)⟩
theorem lw_p38 : lw_okq (⟨"TornStreamsModel", "leaves", "(I)V"⟩, 17) := ⟨⟨by decide +kernel, by decide +kernel⟩, List.mem_of_getElem? (i := 736) (by decide +kernel), List.mem_of_getElem? (i := 904) (by decide +kernel), List.mem_of_getElem? (i := 905) (by decide +kernel)⟩
theorem lw_p39 : lw_okq (⟨"TornStreamsModel", "freeSlot", "()I"⟩, 17) := ⟨⟨by decide +kernel, by decide +kernel⟩, List.mem_of_getElem? (i := 736) (by decide +kernel), List.mem_of_getElem? (i := 908) (by decide +kernel), List.mem_of_getElem? (i := 909) (by decide +kernel)⟩
theorem lw_p40 : lw_okq (⟨"TornStreamsModel", "starts", "(IIII)V"⟩, 17) := ⟨⟨by decide +kernel, by decide +kernel⟩, List.mem_of_getElem? (i := 736) (by decide +kernel), List.mem_of_getElem? (i := 912) (by decide +kernel), List.mem_of_getElem? (i := 913) (by decide +kernel)⟩
theorem lw_p41 : lw_okq (⟨"TornStreamsModel", "put", "(II)V"⟩, 17) := ⟨⟨by decide +kernel, by decide +kernel⟩, List.mem_of_getElem? (i := 736) (by decide +kernel), List.mem_of_getElem? (i := 916) (by decide +kernel), List.mem_of_getElem? (i := 917) (by decide +kernel)⟩
theorem lw_p42 : lw_okq (⟨"TornStreamsModel", "of", "(I)I"⟩, 17) := ⟨⟨by decide +kernel, by decide +kernel⟩, List.mem_of_getElem? (i := 736) (by decide +kernel), List.mem_of_getElem? (i := 920) (by decide +kernel), List.mem_of_getElem? (i := 921) (by decide +kernel)⟩
theorem lw_p43 : lw_okq (⟨"TornStreamsModel", "adds", "(II)V"⟩, 17) := ⟨⟨by decide +kernel, by decide +kernel⟩, List.mem_of_getElem? (i := 736) (by decide +kernel), List.mem_of_getElem? (i := 924) (by decide +kernel), List.mem_of_getElem? (i := 925) (by decide +kernel)⟩
theorem lw_p44 : lw_okq (⟨"TornStreamsModel", "handlesText", "(I)V"⟩, 17) := ⟨⟨by decide +kernel, by decide +kernel⟩, List.mem_of_getElem? (i := 736) (by decide +kernel), List.mem_of_getElem? (i := 928) (by decide +kernel), List.mem_of_getElem? (i := 929) (by decide +kernel)⟩
theorem lw_p45 : lw_okq (⟨"TornStreamsModel", "handles", "(III)V"⟩, 17) := ⟨⟨by decide +kernel, by decide +kernel⟩, List.mem_of_getElem? (i := 736) (by decide +kernel), List.mem_of_getElem? (i := 932) (by decide +kernel), List.mem_of_getElem? (i := 933) (by decide +kernel)⟩
theorem lw_p46 : lw_okq (⟨"TornStreamsModel", "pieceAt", "(I)I"⟩, 17) := ⟨⟨by decide +kernel, by decide +kernel⟩, List.mem_of_getElem? (i := 736) (by decide +kernel), List.mem_of_getElem? (i := 936) (by decide +kernel), List.mem_of_getElem? (i := 937) (by decide +kernel)⟩
theorem lw_p47 : lw_okq (⟨"TornStreamsModel", "deliversAll", "()V"⟩, 17) := ⟨⟨by decide +kernel, by decide +kernel⟩, List.mem_of_getElem? (i := 736) (by decide +kernel), List.mem_of_getElem? (i := 940) (by decide +kernel), List.mem_of_getElem? (i := 941) (by decide +kernel)⟩
def lw_privs_3 : List (MethodName × Nat) := [(⟨"TornStreamsModel", "copies", "(II)V"⟩, 17), (⟨"TornStreamsModel", "others", "()I"⟩, 17), (⟨"TornStreamsModel", "slot", "(I)I"⟩, 17), (⟨"TornStreamsModel", "wrong", "(II)I"⟩, 17), (⟨"TornStreamsModel", "placeOf", "(I)I"⟩, 17), (⟨"TornStreamsModel", "segments", "(II)V"⟩, 17), (⟨"TornStreamsModel", "leaves", "(I)V"⟩, 17), (⟨"TornStreamsModel", "freeSlot", "()I"⟩, 17), (⟨"TornStreamsModel", "starts", "(IIII)V"⟩, 17), (⟨"TornStreamsModel", "put", "(II)V"⟩, 17), (⟨"TornStreamsModel", "of", "(I)I"⟩, 17), (⟨"TornStreamsModel", "adds", "(II)V"⟩, 17), (⟨"TornStreamsModel", "handlesText", "(I)V"⟩, 17), (⟨"TornStreamsModel", "handles", "(III)V"⟩, 17), (⟨"TornStreamsModel", "pieceAt", "(I)I"⟩, 17), (⟨"TornStreamsModel", "deliversAll", "()V"⟩, 17)]
theorem lw_r3 : ∀ q ∈ lw_privs_3, lw_okq q := List.forall_mem_cons.mpr ⟨lw_p32, List.forall_mem_cons.mpr ⟨lw_p33, List.forall_mem_cons.mpr ⟨lw_p34, List.forall_mem_cons.mpr ⟨lw_p35, List.forall_mem_cons.mpr ⟨lw_p36, List.forall_mem_cons.mpr ⟨lw_p37, List.forall_mem_cons.mpr ⟨lw_p38, List.forall_mem_cons.mpr ⟨lw_p39, List.forall_mem_cons.mpr ⟨lw_p40, List.forall_mem_cons.mpr ⟨lw_p41, List.forall_mem_cons.mpr ⟨lw_p42, List.forall_mem_cons.mpr ⟨lw_p43, List.forall_mem_cons.mpr ⟨lw_p44, List.forall_mem_cons.mpr ⟨lw_p45, List.forall_mem_cons.mpr ⟨lw_p46, List.forall_mem_cons.mpr ⟨lw_p47, fun _ h => absurd h List.not_mem_nil⟩⟩⟩⟩⟩⟩⟩⟩⟩⟩⟩⟩⟩⟩⟩⟩
theorem lw_p48 : lw_okq (⟨"TornStreamsModel", "chosen", "(I)I"⟩, 17) := ⟨⟨by decide +kernel, by decide +kernel⟩, List.mem_of_getElem? (i := 736) (by decide +kernel), List.mem_of_getElem? (i := 944) (by decide +kernel), List.mem_of_getElem? (i := 945) (by decide +kernel)⟩
theorem lw_p49 : lw_okq (⟨"TornStreamsModel", "covers", "(II)Z"⟩, 17) := ⟨⟨by decide +kernel, by decide +kernel⟩, List.mem_of_getElem? (i := 736) (by decide +kernel), List.mem_of_getElem? (i := 948) (by decide +kernel), List.mem_of_getElem? (i := 949) (by decide +kernel)⟩
theorem lw_p50 : lw_okq (⟨"TornStreamsModel", "isBetter", "(II)Z"⟩, 17) := ⟨⟨by decide +kernel, by decide +kernel⟩, List.mem_of_getElem? (i := 736) (by decide +kernel), List.mem_of_getElem? (i := 952) (by decide +kernel), List.mem_of_getElem? (i := 953) (by decide +kernel)⟩
theorem lw_p51 : lw_okq (⟨"TornStreamsModel", "byteOf", "(II)I"⟩, 17) := ⟨⟨by decide +kernel, by decide +kernel⟩, List.mem_of_getElem? (i := 736) (by decide +kernel), List.mem_of_getElem? (i := 956) (by decide +kernel), List.mem_of_getElem? (i := 957) (by decide +kernel)⟩
theorem lw_p52 : lw_okq (⟨"TornStreamsModel", "isConflict", "(I)Z"⟩, 17) := ⟨⟨by decide +kernel, by decide +kernel⟩, List.mem_of_getElem? (i := 736) (by decide +kernel), List.mem_of_getElem? (i := 960) (by decide +kernel), List.mem_of_getElem? (i := 961) (by decide +kernel)⟩
theorem lw_p53 : lw_okq (⟨"TornStreamsModel", "delivers", "(II)V"⟩, 17) := ⟨⟨by decide +kernel, by decide +kernel⟩, List.mem_of_getElem? (i := 736) (by decide +kernel), List.mem_of_getElem? (i := 964) (by decide +kernel), List.mem_of_getElem? (i := 965) (by decide +kernel)⟩
theorem lw_p54 : lw_okq (⟨"TornStreamsModel", "character", "(III)V"⟩, 17) := ⟨⟨by decide +kernel, by decide +kernel⟩, List.mem_of_getElem? (i := 736) (by decide +kernel), List.mem_of_getElem? (i := 971) (by decide +kernel), List.mem_of_getElem? (i := 972) (by decide +kernel)⟩
theorem lw_p55 : lw_okq (⟨"TornStreamsModel", "has", "(I)Z"⟩, 17) := ⟨⟨by decide +kernel, by decide +kernel⟩, List.mem_of_getElem? (i := 736) (by decide +kernel), List.mem_of_getElem? (i := 975) (by decide +kernel), List.mem_of_getElem? (i := 976) (by decide +kernel)⟩
theorem lw_p56 : lw_okq (⟨"TornStreamsModel", "reads", "(III)V"⟩, 17) := ⟨⟨by decide +kernel, by decide +kernel⟩, List.mem_of_getElem? (i := 736) (by decide +kernel), List.mem_of_getElem? (i := 979) (by decide +kernel), List.mem_of_getElem? (i := 980) (by decide +kernel)⟩
theorem lw_p57 : lw_okq (⟨"TornStreamsModel", "steps", "(I)V"⟩, 17) := ⟨⟨by decide +kernel, by decide +kernel⟩, List.mem_of_getElem? (i := 736) (by decide +kernel), List.mem_of_getElem? (i := 983) (by decide +kernel), List.mem_of_getElem? (i := 984) (by decide +kernel)⟩
theorem lw_p58 : lw_okq (⟨"TornStreamsModel", "isPossible", "(I)Z"⟩, 17) := ⟨⟨by decide +kernel, by decide +kernel⟩, List.mem_of_getElem? (i := 736) (by decide +kernel), List.mem_of_getElem? (i := 987) (by decide +kernel), List.mem_of_getElem? (i := 988) (by decide +kernel)⟩
theorem lw_p59 : lw_okq (⟨"TornStreamsModel", "laysPossible", "(II)V"⟩, 17) := ⟨⟨by decide +kernel, by decide +kernel⟩, List.mem_of_getElem? (i := 736) (by decide +kernel), List.mem_of_getElem? (i := 997) (by decide +kernel), List.mem_of_getElem? (i := 998) (by decide +kernel)⟩
theorem lw_p60 : lw_okq (⟨"TornStreamsModel", "records", "(III)V"⟩, 17) := ⟨⟨by decide +kernel, by decide +kernel⟩, List.mem_of_getElem? (i := 736) (by decide +kernel), List.mem_of_getElem? (i := 1001) (by decide +kernel), List.mem_of_getElem? (i := 1002) (by decide +kernel)⟩
theorem lw_p61 : lw_okq (⟨"TornStreamsModel", "lets", "()V"⟩, 17) := ⟨⟨by decide +kernel, by decide +kernel⟩, List.mem_of_getElem? (i := 736) (by decide +kernel), List.mem_of_getElem? (i := 1005) (by decide +kernel), List.mem_of_getElem? (i := 1006) (by decide +kernel)⟩
theorem lw_p62 : lw_okq (⟨"TornStreamsModel", "drops", "()V"⟩, 17) := ⟨⟨by decide +kernel, by decide +kernel⟩, List.mem_of_getElem? (i := 736) (by decide +kernel), List.mem_of_getElem? (i := 1009) (by decide +kernel), List.mem_of_getElem? (i := 1010) (by decide +kernel)⟩
theorem lw_p63 : lw_okq (⟨"TornStreamsModel", "covered", "(Z)I"⟩, 17) := ⟨⟨by decide +kernel, by decide +kernel⟩, List.mem_of_getElem? (i := 736) (by decide +kernel), List.mem_of_getElem? (i := 1013) (by decide +kernel), List.mem_of_getElem? (i := 1014) (by decide +kernel)⟩
def lw_privs_4 : List (MethodName × Nat) := [(⟨"TornStreamsModel", "chosen", "(I)I"⟩, 17), (⟨"TornStreamsModel", "covers", "(II)Z"⟩, 17), (⟨"TornStreamsModel", "isBetter", "(II)Z"⟩, 17), (⟨"TornStreamsModel", "byteOf", "(II)I"⟩, 17), (⟨"TornStreamsModel", "isConflict", "(I)Z"⟩, 17), (⟨"TornStreamsModel", "delivers", "(II)V"⟩, 17), (⟨"TornStreamsModel", "character", "(III)V"⟩, 17), (⟨"TornStreamsModel", "has", "(I)Z"⟩, 17), (⟨"TornStreamsModel", "reads", "(III)V"⟩, 17), (⟨"TornStreamsModel", "steps", "(I)V"⟩, 17), (⟨"TornStreamsModel", "isPossible", "(I)Z"⟩, 17), (⟨"TornStreamsModel", "laysPossible", "(II)V"⟩, 17), (⟨"TornStreamsModel", "records", "(III)V"⟩, 17), (⟨"TornStreamsModel", "lets", "()V"⟩, 17), (⟨"TornStreamsModel", "drops", "()V"⟩, 17), (⟨"TornStreamsModel", "covered", "(Z)I"⟩, 17)]
theorem lw_r4 : ∀ q ∈ lw_privs_4, lw_okq q := List.forall_mem_cons.mpr ⟨lw_p48, List.forall_mem_cons.mpr ⟨lw_p49, List.forall_mem_cons.mpr ⟨lw_p50, List.forall_mem_cons.mpr ⟨lw_p51, List.forall_mem_cons.mpr ⟨lw_p52, List.forall_mem_cons.mpr ⟨lw_p53, List.forall_mem_cons.mpr ⟨lw_p54, List.forall_mem_cons.mpr ⟨lw_p55, List.forall_mem_cons.mpr ⟨lw_p56, List.forall_mem_cons.mpr ⟨lw_p57, List.forall_mem_cons.mpr ⟨lw_p58, List.forall_mem_cons.mpr ⟨lw_p59, List.forall_mem_cons.mpr ⟨lw_p60, List.forall_mem_cons.mpr ⟨lw_p61, List.forall_mem_cons.mpr ⟨lw_p62, List.forall_mem_cons.mpr ⟨lw_p63, fun _ h => absurd h List.not_mem_nil⟩⟩⟩⟩⟩⟩⟩⟩⟩⟩⟩⟩⟩⟩⟩⟩
theorem lw_p64 : lw_okq (⟨"TornStreamsModel", "gap", "(I)V"⟩, 17) := ⟨⟨by decide +kernel, by decide +kernel⟩, List.mem_of_getElem? (i := 736) (by decide +kernel), List.mem_of_getElem? (i := 1017) (by decide +kernel), List.mem_of_getElem? (i := 1018) (by decide +kernel)⟩
theorem lw_p65 : lw_okq (⟨"TornStreamsModel", "asked", "(I)I"⟩, 17) := ⟨⟨by decide +kernel, by decide +kernel⟩, List.mem_of_getElem? (i := 736) (by decide +kernel), List.mem_of_getElem? (i := 1025) (by decide +kernel), List.mem_of_getElem? (i := 1026) (by decide +kernel)⟩
theorem lw_p66 : lw_okq (⟨"TornStreamsModel", "propertyNow", "(I)I"⟩, 17) := ⟨⟨by decide +kernel, by decide +kernel⟩, List.mem_of_getElem? (i := 736) (by decide +kernel), List.mem_of_getElem? (i := 1037) (by decide +kernel), List.mem_of_getElem? (i := 1038) (by decide +kernel)⟩
theorem lw_p67 : lw_okq (⟨"TornStreamsModel", "possibleMany", "()I"⟩, 17) := ⟨⟨by decide +kernel, by decide +kernel⟩, List.mem_of_getElem? (i := 736) (by decide +kernel), List.mem_of_getElem? (i := 1041) (by decide +kernel), List.mem_of_getElem? (i := 1042) (by decide +kernel)⟩
theorem lw_p68 : lw_okq (⟨"TornStreamsModel", "byteNow", "(I)I"⟩, 17) := ⟨⟨by decide +kernel, by decide +kernel⟩, List.mem_of_getElem? (i := 736) (by decide +kernel), List.mem_of_getElem? (i := 1049) (by decide +kernel), List.mem_of_getElem? (i := 1050) (by decide +kernel)⟩
theorem lw_p69 : lw_okq (⟨"TornStreamsModel", "possibleNow", "()J"⟩, 17) := ⟨⟨by decide +kernel, by decide +kernel⟩, List.mem_of_getElem? (i := 736) (by decide +kernel), List.mem_of_getElem? (i := 1057) (by decide +kernel), List.mem_of_getElem? (i := 1058) (by decide +kernel)⟩
theorem lw_p70 : lw_okq (⟨"TornStreamsModel", "readNow", "(I)I"⟩, 17) := ⟨⟨by decide +kernel, by decide +kernel⟩, List.mem_of_getElem? (i := 736) (by decide +kernel), List.mem_of_getElem? (i := 1065) (by decide +kernel), List.mem_of_getElem? (i := 1066) (by decide +kernel)⟩
theorem lw_p71 : lw_okq (⟨"TornStreamsModel", "definedSet", "()I"⟩, 17) := ⟨⟨by decide +kernel, by decide +kernel⟩, List.mem_of_getElem? (i := 736) (by decide +kernel), List.mem_of_getElem? (i := 1077) (by decide +kernel), List.mem_of_getElem? (i := 1078) (by decide +kernel)⟩
theorem lw_p72 : lw_okq (⟨"TornStreamsModel", "replays", "(II)I"⟩, 17) := ⟨⟨by decide +kernel, by decide +kernel⟩, List.mem_of_getElem? (i := 736) (by decide +kernel), List.mem_of_getElem? (i := 1089) (by decide +kernel), List.mem_of_getElem? (i := 1090) (by decide +kernel)⟩
theorem lw_p73 : lw_okq (⟨"TornStreamsModel", "mixedFlow", "(JI)J"⟩, 17) := ⟨⟨by decide +kernel, by decide +kernel⟩, List.mem_of_getElem? (i := 736) (by decide +kernel), List.mem_of_getElem? (i := 1113) (by decide +kernel), List.mem_of_getElem? (i := 1114) (by decide +kernel)⟩
def lw_privs_5 : List (MethodName × Nat) := [(⟨"TornStreamsModel", "gap", "(I)V"⟩, 17), (⟨"TornStreamsModel", "asked", "(I)I"⟩, 17), (⟨"TornStreamsModel", "propertyNow", "(I)I"⟩, 17), (⟨"TornStreamsModel", "possibleMany", "()I"⟩, 17), (⟨"TornStreamsModel", "byteNow", "(I)I"⟩, 17), (⟨"TornStreamsModel", "possibleNow", "()J"⟩, 17), (⟨"TornStreamsModel", "readNow", "(I)I"⟩, 17), (⟨"TornStreamsModel", "definedSet", "()I"⟩, 17), (⟨"TornStreamsModel", "replays", "(II)I"⟩, 17), (⟨"TornStreamsModel", "mixedFlow", "(JI)J"⟩, 17)]
theorem lw_r5 : ∀ q ∈ lw_privs_5, lw_okq q := List.forall_mem_cons.mpr ⟨lw_p64, List.forall_mem_cons.mpr ⟨lw_p65, List.forall_mem_cons.mpr ⟨lw_p66, List.forall_mem_cons.mpr ⟨lw_p67, List.forall_mem_cons.mpr ⟨lw_p68, List.forall_mem_cons.mpr ⟨lw_p69, List.forall_mem_cons.mpr ⟨lw_p70, List.forall_mem_cons.mpr ⟨lw_p71, List.forall_mem_cons.mpr ⟨lw_p72, List.forall_mem_cons.mpr ⟨lw_p73, fun _ h => absurd h List.not_mem_nil⟩⟩⟩⟩⟩⟩⟩⟩⟩⟩
def lw_privs : List (MethodName × Nat) := lw_privs_1 ++ (lw_privs_2 ++ (lw_privs_3 ++ (lw_privs_4 ++ (lw_privs_5))))
def lw_tbl : List Cond := k2_sels lw_privs ++ tables_1
theorem lw_privs_ok : ∀ q ∈ lw_privs, lw_okq q := by
  show ∀ q ∈ lw_privs_1 ++ (lw_privs_2 ++ (lw_privs_3 ++ (lw_privs_4 ++ (lw_privs_5)))), lw_okq q
  exact List.forall_mem_append.mpr ⟨lw_r1, List.forall_mem_append.mpr ⟨lw_r2, List.forall_mem_append.mpr ⟨lw_r3, List.forall_mem_append.mpr ⟨lw_r4, lw_r5⟩⟩⟩⟩
end
section

theorem goodIn_r {big : List Cond} (ws : List Cond) (ps : List Nat) (hp : ws = ps.filterMap (fun i => big[i]?)) (h : ws.all goodWord = true) : GoodIn big ws := by
  intro w hw
  have h1 := List.all_eq_true.mp h w hw
  rw [hp] at hw
  obtain ⟨i, -, hi⟩ := List.mem_filterMap.mp hw
  have hm : w ∈ big := by first | exact List.mem_of_getElem? hi | exact List.getElem?_mem hi
  exact ⟨hm, good_of_word h1⟩
theorem goodIn_app {big a b : List Cond} (ha : GoodIn big a) (hb : GoodIn big b) : GoodIn big (a ++ b) := fun w h => (List.mem_append.mp h).elim (ha w) (hb w)
theorem goodIn_ca {big a b : List Cond} {c : Cond} (ha : GoodIn big (c :: a)) (hb : GoodIn big b) : GoodIn big (c :: (a ++ b)) := fun w h => (List.mem_cons.mp h).elim (fun e => ha w (List.mem_cons.mpr (Or.inl e))) (fun h => (List.mem_append.mp h).elim (fun h => ha w (List.mem_cons.mpr (Or.inr h))) (hb w))
theorem goodIn_sub {big ws : List Cond} (hm : ∀ w ∈ ws, w ∈ big) (h : ws.all goodWord = true) : GoodIn big ws := fun w hw => ⟨hm w hw, good_of_word (List.all_eq_true.mp h w hw)⟩
/-! ===== END ===== -/

/-! ===== BEGIN printed: names, fields, word lists, decode rows ===== -/
def RX0 : String := "TornStreams$Automaton"
def TX0 : u_T := fun k => match k with
  | 0 => ("TornStreams$Automaton", "size", "I", false)
  | 1 => ("TornStreams$Automaton", "lengths", "[I", true)
  | 2 => ("TornStreams$Automaton", "parents", "[I", true)
  | 3 => ("TornStreams$Automaton", "lastLetters", "[I", true)
  | 4 => ("TornStreams$Automaton", "fails", "[I", true)
  | 5 => ("TornStreams$Automaton", "wordSets", "[I", true)
  | 6 => ("TornStreams$Automaton", "wordLengths", "[I", true)
  | 7 => ("TornStreams$Automaton", "nexts", "[I", true)
  | _ => ("TornStreams$Automaton", "reached", "[I", true)
def tyX0 : Nat → FieldType := fun k => match k with
  | 0 => .int
  | 1 => .array .int
  | 2 => .array .int
  | 3 => .array .int
  | 4 => .array .int
  | 5 => .array .int
  | 6 => .array .int
  | 7 => .array .int
  | _ => .array .int
abbrev wsX00 : List Cond := u_ws RX0 TX0 9
theorem nmX0 : ∀ a, a < 9 → ∀ b, b < 9 → a ≠ b → (TX0 a).2.1 ≠ (TX0 b).2.1 := by decide +kernel
theorem tyX0_ok : ∀ k, k < 9 → parseFieldDescriptor (TX0 k).2.2.1 = some (tyX0 k) := by decide +kernel
abbrev cX0_init : ByteArray := prog_2_method_1_code
def yX0_init : MethodName := ⟨RX0, "<init>", "()V"⟩
abbrev cX0_has : ByteArray := prog_2_method_2_code
def yX0_has : MethodName := ⟨RX0, "has", "(I)Z"⟩
abbrev cX0_nextOf : ByteArray := prog_2_method_3_code
def yX0_nextOf : MethodName := ⟨RX0, "nextOf", "(II)I"⟩
abbrev cX0_build : ByteArray := prog_2_method_4_code
def yX0_build : MethodName := ⟨RX0, "build", "(LTornStreams$Words;)V"⟩
abbrev cX0_addChildren : ByteArray := prog_2_method_5_code
def yX0_addChildren : MethodName := ⟨RX0, "addChildren", "(LTornStreams$Words;II)V"⟩
abbrev cX0_added : ByteArray := prog_2_method_6_code
def yX0_added : MethodName := ⟨RX0, "added", "(III)I"⟩
abbrev cX0_link : ByteArray := prog_2_method_7_code
def yX0_link : MethodName := ⟨RX0, "link", "(I)V"⟩
abbrev cX0_nextSet : ByteArray := prog_2_method_8_code
def yX0_nextSet : MethodName := ⟨RX0, "nextSet", "(JI)J"⟩
abbrev cX0_nextSetByAny : ByteArray := prog_2_method_9_code
def yX0_nextSetByAny : MethodName := ⟨RX0, "nextSetByAny", "(J)J"⟩
abbrev cX0_spread : ByteArray := prog_2_method_10_code
def yX0_spread : MethodName := ⟨RX0, "spread", "(JI)J"⟩
abbrev cX0_wordsOfSet : ByteArray := prog_2_method_11_code
def yX0_wordsOfSet : MethodName := ⟨RX0, "wordsOfSet", "(J)I"⟩
abbrev cX0_fewestLettersToWord : ByteArray := prog_2_method_12_code
def yX0_fewestLettersToWord : MethodName := ⟨RX0, "fewestLettersToWord", "(I)I"⟩
def RX1 : String := "TornStreams$Finds"
def TX1 : u_T := fun k => match k with
  | 0 => ("TornStreams$Finds", "sureCount", "I", false)
  | 1 => ("TornStreams$Finds", "doubtfulCount", "I", false)
  | 2 => ("TornStreams$Finds", "keys", "[I", true)
  | 3 => ("TornStreams$Finds", "words", "[I", true)
  | 4 => ("TornStreams$Finds", "firsts", "[I", true)
  | _ => ("TornStreams$Finds", "ends", "[I", true)
def tyX1 : Nat → FieldType := fun k => match k with
  | 0 => .int
  | 1 => .int
  | 2 => .array .int
  | 3 => .array .int
  | 4 => .array .int
  | _ => .array .int
abbrev wsX10 : List Cond := u_ws RX1 TX1 6
theorem nmX1 : ∀ a, a < 6 → ∀ b, b < 6 → a ≠ b → (TX1 a).2.1 ≠ (TX1 b).2.1 := by decide +kernel
theorem tyX1_ok : ∀ k, k < 6 → parseFieldDescriptor (TX1 k).2.2.1 = some (tyX1 k) := by decide +kernel
abbrev cX1_init : ByteArray := prog_3_method_1_code
def yX1_init : MethodName := ⟨RX1, "<init>", "()V"⟩
abbrev cX1_copyFrom : ByteArray := prog_3_method_2_code
def yX1_copyFrom : MethodName := ⟨RX1, "copyFrom", "(LTornStreams$Finds;)V"⟩
abbrev cX1_made : ByteArray := prog_3_method_3_code
def yX1_made : MethodName := ⟨RX1, "made", "()I"⟩
abbrev cX1_remembered : ByteArray := prog_3_method_4_code
def yX1_remembered : MethodName := ⟨RX1, "remembered", "()I"⟩
abbrev cX1_add : ByteArray := prog_3_method_5_code
def yX1_add : MethodName := ⟨RX1, "add", "(IIII)V"⟩
abbrev cX1_tell : ByteArray := prog_3_method_6_code
def yX1_tell : MethodName := ⟨RX1, "tell", "(II)I"⟩
def RX2 : String := "TornStreams$Flow"
def TX2 : u_T := fun k => match k with
  | 0 => ("TornStreams$Flow", "key", "I", false)
  | 1 => ("TornStreams$Flow", "policy", "I", false)
  | 2 => ("TornStreams$Flow", "bound", "I", false)
  | 3 => ("TornStreams$Flow", "offset", "I", false)
  | 4 => ("TornStreams$Flow", "pieces", "LTornStreams$Segments;", true)
  | 5 => ("TornStreams$Flow", "log", "LTornStreams$Segments;", true)
  | 6 => ("TornStreams$Flow", "reader", "LTornStreams$Reader;", true)
  | 7 => ("TornStreams$Flow", "segmentCount", "I", false)
  | 8 => ("TornStreams$Flow", "oldCount", "I", false)
  | 9 => ("TornStreams$Flow", "conflictCount", "I", false)
  | 10 => ("TornStreams$Flow", "gapCount", "I", false)
  | _ => ("TornStreams$Flow", "gapBytes", "I", false)
def tyX2 : Nat → FieldType := fun k => match k with
  | 0 => .int
  | 1 => .int
  | 2 => .int
  | 3 => .int
  | 4 => .object "TornStreams$Segments"
  | 5 => .object "TornStreams$Segments"
  | 6 => .object "TornStreams$Reader"
  | 7 => .int
  | 8 => .int
  | 9 => .int
  | 10 => .int
  | _ => .int
abbrev wsX20 : List Cond := u_ws RX2 TX2 12
theorem nmX2 : ∀ a, a < 12 → ∀ b, b < 12 → a ≠ b → (TX2 a).2.1 ≠ (TX2 b).2.1 := by decide +kernel
theorem tyX2_ok : ∀ k, k < 12 → parseFieldDescriptor (TX2 k).2.2.1 = some (tyX2 k) := by decide +kernel
abbrev cX2_init : ByteArray := prog_4_method_1_code
def yX2_init : MethodName := ⟨RX2, "<init>", "(LTornStreams$Automaton;LTornStreams$Finds;)V"⟩
abbrev cX2_begin : ByteArray := prog_4_method_2_code
def yX2_begin : MethodName := ⟨RX2, "begin", "(IIII)V"⟩
abbrev cX2_copyFrom : ByteArray := prog_4_method_3_code
def yX2_copyFrom : MethodName := ⟨RX2, "copyFrom", "(LTornStreams$Flow;)V"⟩
abbrev cX2_accept : ByteArray := prog_4_method_4_code
def yX2_accept : MethodName := ⟨RX2, "accept", "([BIII)V"⟩
abbrev cX2_end : ByteArray := prog_4_method_5_code
def yX2_end : MethodName := ⟨RX2, "end", "()V"⟩
abbrev cX2_deliver : ByteArray := prog_4_method_6_code
def yX2_deliver : MethodName := ⟨RX2, "deliver", "()V"⟩
abbrev cX2_skipGap : ByteArray := prog_4_method_7_code
def yX2_skipGap : MethodName := ⟨RX2, "skipGap", "()V"⟩
abbrev cX2_isDisputed : ByteArray := prog_4_method_8_code
def yX2_isDisputed : MethodName := ⟨RX2, "isDisputed", "(II)Z"⟩
abbrev cX2_chosenPiece : ByteArray := prog_4_method_9_code
def yX2_chosenPiece : MethodName := ⟨RX2, "chosenPiece", "(I)I"⟩
abbrev cX2_isPreferred : ByteArray := prog_4_method_10_code
def yX2_isPreferred : MethodName := ⟨RX2, "isPreferred", "(II)Z"⟩
abbrev cX2_chosenByte : ByteArray := prog_4_method_11_code
def yX2_chosenByte : MethodName := ⟨RX2, "chosenByte", "(I)I"⟩
abbrev cX2_tell : ByteArray := prog_4_method_12_code
def yX2_tell : MethodName := ⟨RX2, "tell", "(I)I"⟩
def RX3 : String := "TornStreams$Reader"
def TX3 : u_T := fun k => match k with
  | 0 => ("TornStreams$Reader", "automaton", "LTornStreams$Automaton;", true)
  | 1 => ("TornStreams$Reader", "finds", "LTornStreams$Finds;", true)
  | 2 => ("TornStreams$Reader", "key", "I", false)
  | 3 => ("TornStreams$Reader", "flags", "I", false)
  | 4 => ("TornStreams$Reader", "heldCount", "I", false)
  | 5 => ("TornStreams$Reader", "heldDigit", "I", false)
  | 6 => ("TornStreams$Reader", "isBehindBlank", "Z", false)
  | 7 => ("TornStreams$Reader", "node", "I", false)
  | 8 => ("TornStreams$Reader", "possible", "J", false)
  | 9 => ("TornStreams$Reader", "characters", "[I", true)
  | 10 => ("TornStreams$Reader", "firstIndices", "[I", true)
  | 11 => ("TornStreams$Reader", "readCount", "I", false)
  | 12 => ("TornStreams$Reader", "sureCount", "I", false)
  | 13 => ("TornStreams$Reader", "doubtfulCount", "I", false)
  | _ => ("TornStreams$Reader", "found", "I", false)
def tyX3 : Nat → FieldType := fun k => match k with
  | 0 => .object "TornStreams$Automaton"
  | 1 => .object "TornStreams$Finds"
  | 2 => .int
  | 3 => .int
  | 4 => .int
  | 5 => .int
  | 6 => .boolean
  | 7 => .int
  | 8 => .long
  | 9 => .array .int
  | 10 => .array .int
  | 11 => .int
  | 12 => .int
  | 13 => .int
  | _ => .int
abbrev wsX30 : List Cond := u_ws RX3 TX3 15
theorem nmX3 : ∀ a, a < 15 → ∀ b, b < 15 → a ≠ b → (TX3 a).2.1 ≠ (TX3 b).2.1 := by decide +kernel
theorem tyX3_ok : ∀ k, k < 15 → parseFieldDescriptor (TX3 k).2.2.1 = some (tyX3 k) := by decide +kernel
abbrev cX3_init : ByteArray := prog_5_method_1_code
def yX3_init : MethodName := ⟨RX3, "<init>", "(LTornStreams$Automaton;LTornStreams$Finds;)V"⟩
abbrev cX3_begin : ByteArray := prog_5_method_2_code
def yX3_begin : MethodName := ⟨RX3, "begin", "(II)V"⟩
abbrev cX3_restart : ByteArray := prog_5_method_3_code
def yX3_restart : MethodName := ⟨RX3, "restart", "()V"⟩
abbrev cX3_copyFrom : ByteArray := prog_5_method_4_code
def yX3_copyFrom : MethodName := ⟨RX3, "copyFrom", "(LTornStreams$Reader;)V"⟩
abbrev cX3_take : ByteArray := prog_5_method_5_code
def yX3_take : MethodName := ⟨RX3, "take", "(II)V"⟩
abbrev cX3_release : ByteArray := prog_5_method_6_code
def yX3_release : MethodName := ⟨RX3, "release", "(I)V"⟩
abbrev cX3_skip : ByteArray := prog_5_method_7_code
def yX3_skip : MethodName := ⟨RX3, "skip", "(II)V"⟩
abbrev cX3_come : ByteArray := prog_5_method_8_code
def yX3_come : MethodName := ⟨RX3, "come", "(III)V"⟩
abbrev cX3_isDropped : ByteArray := prog_5_method_9_code
def yX3_isDropped : MethodName := ⟨RX3, "isDropped", "(I)Z"⟩
abbrev cX3_firstIndexOf : ByteArray := prog_5_method_10_code
def yX3_firstIndexOf : MethodName := ⟨RX3, "firstIndexOf", "(I)I"⟩
abbrev cX3_recentCharacter : ByteArray := prog_5_method_11_code
def yX3_recentCharacter : MethodName := ⟨RX3, "recentCharacter", "(I)I"⟩
abbrev cX3_hexadecimal : ByteArray := prog_5_method_12_code
def yX3_hexadecimal : MethodName := ⟨RX3, "hexadecimal", "(I)I"⟩
def RX4 : String := "TornStreams$Segments"
def TX4 : u_T := fun k => match k with
  | 0 => ("TornStreams$Segments", "count", "I", false)
  | 1 => ("TornStreams$Segments", "starts", "[I", true)
  | 2 => ("TornStreams$Segments", "lengths", "[I", true)
  | _ => ("TornStreams$Segments", "bytes", "[B", true)
def tyX4 : Nat → FieldType := fun k => match k with
  | 0 => .int
  | 1 => .array .int
  | 2 => .array .int
  | _ => .array .byte
abbrev wsX40 : List Cond := u_ws RX4 TX4 4
theorem nmX4 : ∀ a, a < 4 → ∀ b, b < 4 → a ≠ b → (TX4 a).2.1 ≠ (TX4 b).2.1 := by decide +kernel
theorem tyX4_ok : ∀ k, k < 4 → parseFieldDescriptor (TX4 k).2.2.1 = some (tyX4 k) := by decide +kernel
abbrev cX4_init : ByteArray := prog_6_method_1_code
def yX4_init : MethodName := ⟨RX4, "<init>", "(I)V"⟩
abbrev cX4_copyFrom : ByteArray := prog_6_method_2_code
def yX4_copyFrom : MethodName := ⟨RX4, "copyFrom", "(LTornStreams$Segments;)V"⟩
abbrev cX4_isFull : ByteArray := prog_6_method_3_code
def yX4_isFull : MethodName := ⟨RX4, "isFull", "()Z"⟩
abbrev cX4_add : ByteArray := prog_6_method_4_code
def yX4_add : MethodName := ⟨RX4, "add", "([BIII)V"⟩
abbrev cX4_put : ByteArray := prog_6_method_5_code
def yX4_put : MethodName := ⟨RX4, "put", "(I[BIII)V"⟩
abbrev cX4_covers : ByteArray := prog_6_method_6_code
def yX4_covers : MethodName := ⟨RX4, "covers", "(II)Z"⟩
abbrev cX4_byteFor : ByteArray := prog_6_method_7_code
def yX4_byteFor : MethodName := ⟨RX4, "byteFor", "(II)I"⟩
abbrev cX4_dropBefore : ByteArray := prog_6_method_8_code
def yX4_dropBefore : MethodName := ⟨RX4, "dropBefore", "(I)V"⟩
abbrev cX4_coveredFrom : ByteArray := prog_6_method_9_code
def yX4_coveredFrom : MethodName := ⟨RX4, "coveredFrom", "(I)I"⟩
abbrev cX4_isCoveredBefore : ByteArray := prog_6_method_10_code
def yX4_isCoveredBefore : MethodName := ⟨RX4, "isCoveredBefore", "(II)Z"⟩
abbrev cX4_smallestStart : ByteArray := prog_6_method_11_code
def yX4_smallestStart : MethodName := ⟨RX4, "smallestStart", "()I"⟩
def RX5 : String := "TornStreams$State"
def TX5 : u_T := fun k => match k with
  | 0 => ("TornStreams$State", "words", "LTornStreams$Words;", true)
  | 1 => ("TornStreams$State", "settings", "[I", true)
  | 2 => ("TornStreams$State", "finds", "LTornStreams$Finds;", true)
  | 3 => ("TornStreams$State", "flows", "[LTornStreams$Flow;", true)
  | 4 => ("TornStreams$State", "flowCount", "I", false)
  | _ => ("TornStreams$State", "forgottenCount", "I", false)
def tyX5 : Nat → FieldType := fun k => match k with
  | 0 => .object "TornStreams$Words"
  | 1 => .array .int
  | 2 => .object "TornStreams$Finds"
  | 3 => .array (.object "TornStreams$Flow")
  | 4 => .int
  | _ => .int
abbrev wsX50 : List Cond := u_ws RX5 TX5 6
theorem nmX5 : ∀ a, a < 6 → ∀ b, b < 6 → a ≠ b → (TX5 a).2.1 ≠ (TX5 b).2.1 := by decide +kernel
theorem tyX5_ok : ∀ k, k < 6 → parseFieldDescriptor (TX5 k).2.2.1 = some (tyX5 k) := by decide +kernel
abbrev cX5_init : ByteArray := prog_7_method_1_code
def yX5_init : MethodName := ⟨RX5, "<init>", "(LTornStreams$Automaton;LTornStreams$Finds;)V"⟩
abbrev cX5_copyFrom : ByteArray := prog_7_method_2_code
def yX5_copyFrom : MethodName := ⟨RX5, "copyFrom", "(LTornStreams$State;)V"⟩
abbrev cX5_placeOf : ByteArray := prog_7_method_3_code
def yX5_placeOf : MethodName := ⟨RX5, "placeOf", "(I)I"⟩
abbrev cX5_flowOfSegment : ByteArray := prog_7_method_4_code
def yX5_flowOfSegment : MethodName := ⟨RX5, "flowOfSegment", "(I)LTornStreams$Flow;"⟩
abbrev cX5_remove : ByteArray := prog_7_method_5_code
def yX5_remove : MethodName := ⟨RX5, "remove", "(I)V"⟩
abbrev cX5_movedToEnd : ByteArray := prog_7_method_6_code
def yX5_movedToEnd : MethodName := ⟨RX5, "movedToEnd", "(I)LTornStreams$Flow;"⟩
def RX6 : String := "TornStreams$Words"
def TX6 : u_T := fun k => match k with
  | 0 => ("TornStreams$Words", "lengths", "[I", true)
  | _ => ("TornStreams$Words", "letters", "[B", true)
def tyX6 : Nat → FieldType := fun k => match k with
  | 0 => .array .int
  | _ => .array .byte
abbrev wsX60 : List Cond := u_ws RX6 TX6 2
theorem nmX6 : ∀ a, a < 2 → ∀ b, b < 2 → a ≠ b → (TX6 a).2.1 ≠ (TX6 b).2.1 := by decide +kernel
theorem tyX6_ok : ∀ k, k < 2 → parseFieldDescriptor (TX6 k).2.2.1 = some (tyX6 k) := by decide +kernel
abbrev cX6_init : ByteArray := prog_8_method_1_code
def yX6_init : MethodName := ⟨RX6, "<init>", "()V"⟩
abbrev cX6_copyFrom : ByteArray := prog_8_method_2_code
def yX6_copyFrom : MethodName := ⟨RX6, "copyFrom", "(LTornStreams$Words;)V"⟩
abbrev cX6_isDefined : ByteArray := prog_8_method_3_code
def yX6_isDefined : MethodName := ⟨RX6, "isDefined", "(I)Z"⟩
abbrev cX6_put : ByteArray := prog_8_method_4_code
def yX6_put : MethodName := ⟨RX6, "put", "(I[BI)V"⟩
abbrev cX6_remove : ByteArray := prog_8_method_5_code
def yX6_remove : MethodName := ⟨RX6, "remove", "(I)V"⟩
abbrev cX6_letterAt : ByteArray := prog_8_method_6_code
def yX6_letterAt : MethodName := ⟨RX6, "letterAt", "(II)I"⟩
abbrev cX6_definedSet : ByteArray := prog_8_method_7_code
def yX6_definedSet : MethodName := ⟨RX6, "definedSet", "()I"⟩
def RX7 : String := "TornStreams"
def TX7 : u_T := fun k => match k with
  | 0 => ("TornStreams", "text", "[B", true)
  | 1 => ("TornStreams", "textLength", "I", false)
  | 2 => ("TornStreams", "automaton", "LTornStreams$Automaton;", true)
  | 3 => ("TornStreams", "now", "LTornStreams$State;", false)
  | 4 => ("TornStreams", "trial", "LTornStreams$State;", true)
  | 5 => ("TornStreams", "rehearsal", "LTornStreams$Flow;", true)
  | 6 => ("TornStreams", "past", "[LTornStreams$State;", true)
  | _ => ("TornStreams", "pastCount", "I", false)
def tyX7 : Nat → FieldType := fun k => match k with
  | 0 => .array .byte
  | 1 => .int
  | 2 => .object "TornStreams$Automaton"
  | 3 => .object "TornStreams$State"
  | 4 => .object "TornStreams$State"
  | 5 => .object "TornStreams$Flow"
  | 6 => .array (.object "TornStreams$State")
  | _ => .int
abbrev wsX70 : List Cond := u_ws RX7 TX7 8
theorem nmX7 : ∀ a, a < 8 → ∀ b, b < 8 → a ≠ b → (TX7 a).2.1 ≠ (TX7 b).2.1 := by decide +kernel
theorem tyX7_ok : ∀ k, k < 8 → parseFieldDescriptor (TX7 k).2.2.1 = some (tyX7 k) := by decide +kernel
abbrev cX7_init : ByteArray := prog_1_method_1_code
def yX7_init : MethodName := ⟨RX7, "<init>", "()V"⟩
abbrev cX7_type : ByteArray := prog_1_method_2_code
def yX7_type : MethodName := ⟨RX7, "type", "(I)I"⟩
abbrev cX7_clear : ByteArray := prog_1_method_3_code
def yX7_clear : MethodName := ⟨RX7, "clear", "()I"⟩
abbrev cX7_define : ByteArray := prog_1_method_4_code
def yX7_define : MethodName := ⟨RX7, "define", "(I)I"⟩
abbrev cX7_forget : ByteArray := prog_1_method_5_code
def yX7_forget : MethodName := ⟨RX7, "forget", "(I)I"⟩
abbrev cX7_letter : ByteArray := prog_1_method_6_code
def yX7_letter : MethodName := ⟨RX7, "letter", "(II)I"⟩
abbrev cX7_node : ByteArray := prog_1_method_7_code
def yX7_node : MethodName := ⟨RX7, "node", "(II)I"⟩
abbrev cX7_next : ByteArray := prog_1_method_8_code
def yX7_next : MethodName := ⟨RX7, "next", "(II)I"⟩
abbrev cX7_set : ByteArray := prog_1_method_9_code
def yX7_set : MethodName := ⟨RX7, "set", "(II)I"⟩
abbrev cX7_segment : ByteArray := prog_1_method_10_code
def yX7_segment : MethodName := ⟨RX7, "segment", "(II)I"⟩
abbrev cX7_finish : ByteArray := prog_1_method_11_code
def yX7_finish : MethodName := ⟨RX7, "finish", "(I)I"⟩
abbrev cX7_flow : ByteArray := prog_1_method_12_code
def yX7_flow : MethodName := ⟨RX7, "flow", "(I)I"⟩
abbrev cX7_property : ByteArray := prog_1_method_13_code
def yX7_property : MethodName := ⟨RX7, "property", "(II)I"⟩
abbrev cX7_byteAt : ByteArray := prog_1_method_14_code
def yX7_byteAt : MethodName := ⟨RX7, "byteAt", "(II)I"⟩
abbrev cX7_possible : ByteArray := prog_1_method_15_code
def yX7_possible : MethodName := ⟨RX7, "possible", "(I)J"⟩
abbrev cX7_read : ByteArray := prog_1_method_16_code
def yX7_read : MethodName := ⟨RX7, "read", "(II)I"⟩
abbrev cX7_find : ByteArray := prog_1_method_17_code
def yX7_find : MethodName := ⟨RX7, "find", "(II)I"⟩
abbrev cX7_told : ByteArray := prog_1_method_18_code
def yX7_told : MethodName := ⟨RX7, "told", "(I)I"⟩
abbrev cX7_ifSegment : ByteArray := prog_1_method_19_code
def yX7_ifSegment : MethodName := ⟨RX7, "ifSegment", "(II)I"⟩
abbrev cX7_replay : ByteArray := prog_1_method_20_code
def yX7_replay : MethodName := ⟨RX7, "replay", "(II)I"⟩
abbrev cX7_evasions : ByteArray := prog_1_method_21_code
def yX7_evasions : MethodName := ⟨RX7, "evasions", "(I)I"⟩
abbrev cX7_nearest : ByteArray := prog_1_method_22_code
def yX7_nearest : MethodName := ⟨RX7, "nearest", "(I)I"⟩
abbrev cX7_undo : ByteArray := prog_1_method_23_code
def yX7_undo : MethodName := ⟨RX7, "undo", "()I"⟩
abbrev cX7_digest : ByteArray := prog_1_method_24_code
def yX7_digest : MethodName := ⟨RX7, "digest", "()J"⟩
abbrev cX7_mixedWithFlow : ByteArray := prog_1_method_25_code
def yX7_mixedWithFlow : MethodName := ⟨RX7, "mixedWithFlow", "(JLTornStreams$Flow;)J"⟩
abbrev cX7_mixed : ByteArray := prog_1_method_26_code
def yX7_mixed : MethodName := ⟨RX7, "mixed", "(JJ)J"⟩
abbrev cX7_isWord : ByteArray := prog_1_method_27_code
def yX7_isWord : MethodName := ⟨RX7, "isWord", "(I)Z"⟩
abbrev cX7_isKey : ByteArray := prog_1_method_28_code
def yX7_isKey : MethodName := ⟨RX7, "isKey", "(I)Z"⟩
abbrev cX7_firstWrongByte : ByteArray := prog_1_method_29_code
def yX7_firstWrongByte : MethodName := ⟨RX7, "firstWrongByte", "()I"⟩
abbrev cX7_isLetter : ByteArray := prog_1_method_30_code
def yX7_isLetter : MethodName := ⟨RX7, "isLetter", "(I)Z"⟩
abbrev cX7_wordsChanged : ByteArray := prog_1_method_31_code
def yX7_wordsChanged : MethodName := ⟨RX7, "wordsChanged", "()V"⟩
abbrev cX7_segmentError : ByteArray := prog_1_method_32_code
def yX7_segmentError : MethodName := ⟨RX7, "segmentError", "(II)I"⟩
abbrev cX7_handled : ByteArray := prog_1_method_33_code
def yX7_handled : MethodName := ⟨RX7, "handled", "(LTornStreams$State;II)I"⟩
abbrev cX7_wordsBy : ByteArray := prog_1_method_34_code
def yX7_wordsBy : MethodName := ⟨RX7, "wordsBy", "(LTornStreams$Flow;I)I"⟩
abbrev cX7_record : ByteArray := prog_1_method_35_code
def yX7_record : MethodName := ⟨RX7, "record", "()V"⟩
abbrev cX7_dropOldest : ByteArray := prog_1_method_36_code
def yX7_dropOldest : MethodName := ⟨RX7, "dropOldest", "()V"⟩
def RX8 : String := "TornStreamsModel"
def TX8 : u_T := fun k => match k with
  | 0 => ("TornStreamsModel", "page", "[I", true)
  | 1 => ("TornStreamsModel", "remembered", "I", false)
  | 2 => ("TornStreamsModel", "text", "[I", true)
  | 3 => ("TornStreamsModel", "typed", "I", false)
  | 4 => ("TornStreamsModel", "nodes", "I", false)
  | 5 => ("TornStreamsModel", "lengths", "[I", true)
  | 6 => ("TornStreamsModel", "letters", "[I", true)
  | 7 => ("TornStreamsModel", "parents", "[I", true)
  | 8 => ("TornStreamsModel", "fails", "[I", true)
  | 9 => ("TornStreamsModel", "sets", "[I", true)
  | 10 => ("TornStreamsModel", "nexts", "[I", true)
  | 11 => ("TornStreamsModel", "row", "[I", true)
  | 12 => ("TornStreamsModel", "flow", "I", false)
  | 13 => ("TornStreamsModel", "made", "I", false)
  | 14 => ("TornStreamsModel", "foundWords", "I", false)
  | 15 => ("TornStreamsModel", "far", "[I", true)
  | _ => ("TornStreamsModel", "line", "[I", true)
def tyX8 : Nat → FieldType := fun k => match k with
  | 0 => .array .int
  | 1 => .int
  | 2 => .array .int
  | 3 => .int
  | 4 => .int
  | 5 => .array .int
  | 6 => .array .int
  | 7 => .array .int
  | 8 => .array .int
  | 9 => .array .int
  | 10 => .array .int
  | 11 => .array .int
  | 12 => .int
  | 13 => .int
  | 14 => .int
  | 15 => .array .int
  | _ => .array .int
abbrev wsX80 : List Cond := u_ws RX8 TX8 17
theorem nmX8 : ∀ a, a < 17 → ∀ b, b < 17 → a ≠ b → (TX8 a).2.1 ≠ (TX8 b).2.1 := by decide +kernel
theorem tyX8_ok : ∀ k, k < 17 → parseFieldDescriptor (TX8 k).2.2.1 = some (tyX8 k) := by decide +kernel
abbrev cX8_init : ByteArray := prog_10_method_1_code
def yX8_init : MethodName := ⟨RX8, "<init>", "()V"⟩
abbrev cX8_in : ByteArray := prog_10_method_3_code
def yX8_in : MethodName := ⟨RX8, "in", "(III)Z"⟩
abbrev cX8_copies : ByteArray := prog_10_method_4_code
def yX8_copies : MethodName := ⟨RX8, "copies", "(II)V"⟩
abbrev cX8_begins : ByteArray := prog_10_method_5_code
def yX8_begins : MethodName := ⟨RX8, "begins", "()V"⟩
abbrev cX8_wordLength : ByteArray := prog_10_method_6_code
def yX8_wordLength : MethodName := ⟨RX8, "wordLength", "(I)I"⟩
abbrev cX8_letterOf : ByteArray := prog_10_method_7_code
def yX8_letterOf : MethodName := ⟨RX8, "letterOf", "(II)I"⟩
abbrev cX8_order : ByteArray := prog_10_method_8_code
def yX8_order : MethodName := ⟨RX8, "order", "(II)I"⟩
abbrev cX8_nodeOf : ByteArray := prog_10_method_9_code
def yX8_nodeOf : MethodName := ⟨RX8, "nodeOf", "(II)I"⟩
abbrev cX8_inserts : ByteArray := prog_10_method_10_code
def yX8_inserts : MethodName := ⟨RX8, "inserts", "(I)V"⟩
abbrev cX8_longest : ByteArray := prog_10_method_11_code
def yX8_longest : MethodName := ⟨RX8, "longest", "(II)I"⟩
abbrev cX8_takes : ByteArray := prog_10_method_12_code
def yX8_takes : MethodName := ⟨RX8, "takes", "(I)V"⟩
abbrev cX8_endsWith : ByteArray := prog_10_method_13_code
def yX8_endsWith : MethodName := ⟨RX8, "endsWith", "(II)Z"⟩
abbrev cX8_lays : ByteArray := prog_10_method_14_code
def yX8_lays : MethodName := ⟨RX8, "lays", "()V"⟩
abbrev cX8_type : ByteArray := prog_10_method_15_code
def yX8_type : MethodName := ⟨RX8, "type", "(I)I"⟩
abbrev cX8_clear : ByteArray := prog_10_method_16_code
def yX8_clear : MethodName := ⟨RX8, "clear", "()I"⟩
abbrev cX8_isWord : ByteArray := prog_10_method_17_code
def yX8_isWord : MethodName := ⟨RX8, "isWord", "(I)Z"⟩
abbrev cX8_faultOf : ByteArray := prog_10_method_18_code
def yX8_faultOf : MethodName := ⟨RX8, "faultOf", "()I"⟩
abbrev cX8_slot : ByteArray := prog_10_method_19_code
def yX8_slot : MethodName := ⟨RX8, "slot", "(I)I"⟩
abbrev cX8_others : ByteArray := prog_10_method_20_code
def yX8_others : MethodName := ⟨RX8, "others", "()I"⟩
abbrev cX8_define : ByteArray := prog_10_method_21_code
def yX8_define : MethodName := ⟨RX8, "define", "(I)I"⟩
abbrev cX8_forget : ByteArray := prog_10_method_22_code
def yX8_forget : MethodName := ⟨RX8, "forget", "(I)I"⟩
abbrev cX8_letter : ByteArray := prog_10_method_23_code
def yX8_letter : MethodName := ⟨RX8, "letter", "(II)I"⟩
abbrev cX8_node : ByteArray := prog_10_method_24_code
def yX8_node : MethodName := ⟨RX8, "node", "(II)I"⟩
abbrev cX8_next : ByteArray := prog_10_method_25_code
def yX8_next : MethodName := ⟨RX8, "next", "(II)I"⟩
abbrev cX8_set : ByteArray := prog_10_method_26_code
def yX8_set : MethodName := ⟨RX8, "set", "(II)I"⟩
abbrev cX8_of : ByteArray := prog_10_method_27_code
def yX8_of : MethodName := ⟨RX8, "of", "(I)I"⟩
abbrev cX8_put : ByteArray := prog_10_method_28_code
def yX8_put : MethodName := ⟨RX8, "put", "(II)V"⟩
abbrev cX8_adds : ByteArray := prog_10_method_29_code
def yX8_adds : MethodName := ⟨RX8, "adds", "(II)V"⟩
abbrev cX8_isPossible : ByteArray := prog_10_method_30_code
def yX8_isPossible : MethodName := ⟨RX8, "isPossible", "(I)Z"⟩
abbrev cX8_laysPossible : ByteArray := prog_10_method_31_code
def yX8_laysPossible : MethodName := ⟨RX8, "laysPossible", "(II)V"⟩
abbrev cX8_lowOf : ByteArray := prog_10_method_32_code
def yX8_lowOf : MethodName := ⟨RX8, "lowOf", "(I)I"⟩
abbrev cX8_highOf : ByteArray := prog_10_method_33_code
def yX8_highOf : MethodName := ⟨RX8, "highOf", "(I)I"⟩
abbrev cX8_records : ByteArray := prog_10_method_34_code
def yX8_records : MethodName := ⟨RX8, "records", "(III)V"⟩
abbrev cX8_steps : ByteArray := prog_10_method_35_code
def yX8_steps : MethodName := ⟨RX8, "steps", "(I)V"⟩
abbrev cX8_reads : ByteArray := prog_10_method_36_code
def yX8_reads : MethodName := ⟨RX8, "reads", "(III)V"⟩
abbrev cX8_has : ByteArray := prog_10_method_37_code
def yX8_has : MethodName := ⟨RX8, "has", "(I)Z"⟩
abbrev cX8_character : ByteArray := prog_10_method_38_code
def yX8_character : MethodName := ⟨RX8, "character", "(III)V"⟩
abbrev cX8_hexOf : ByteArray := prog_10_method_39_code
def yX8_hexOf : MethodName := ⟨RX8, "hexOf", "(I)I"⟩
abbrev cX8_lets : ByteArray := prog_10_method_40_code
def yX8_lets : MethodName := ⟨RX8, "lets", "()V"⟩
abbrev cX8_delivers : ByteArray := prog_10_method_41_code
def yX8_delivers : MethodName := ⟨RX8, "delivers", "(II)V"⟩
abbrev cX8_pieceAt : ByteArray := prog_10_method_42_code
def yX8_pieceAt : MethodName := ⟨RX8, "pieceAt", "(I)I"⟩
abbrev cX8_covers : ByteArray := prog_10_method_43_code
def yX8_covers : MethodName := ⟨RX8, "covers", "(II)Z"⟩
abbrev cX8_byteOf : ByteArray := prog_10_method_44_code
def yX8_byteOf : MethodName := ⟨RX8, "byteOf", "(II)I"⟩
abbrev cX8_isBetter : ByteArray := prog_10_method_45_code
def yX8_isBetter : MethodName := ⟨RX8, "isBetter", "(II)Z"⟩
abbrev cX8_chosen : ByteArray := prog_10_method_46_code
def yX8_chosen : MethodName := ⟨RX8, "chosen", "(I)I"⟩
abbrev cX8_isConflict : ByteArray := prog_10_method_47_code
def yX8_isConflict : MethodName := ⟨RX8, "isConflict", "(I)Z"⟩
abbrev cX8_drops : ByteArray := prog_10_method_48_code
def yX8_drops : MethodName := ⟨RX8, "drops", "()V"⟩
abbrev cX8_deliversAll : ByteArray := prog_10_method_49_code
def yX8_deliversAll : MethodName := ⟨RX8, "deliversAll", "()V"⟩
abbrev cX8_covered : ByteArray := prog_10_method_50_code
def yX8_covered : MethodName := ⟨RX8, "covered", "(Z)I"⟩
abbrev cX8_gap : ByteArray := prog_10_method_51_code
def yX8_gap : MethodName := ⟨RX8, "gap", "(I)V"⟩
abbrev cX8_handles : ByteArray := prog_10_method_52_code
def yX8_handles : MethodName := ⟨RX8, "handles", "(III)V"⟩
abbrev cX8_starts : ByteArray := prog_10_method_53_code
def yX8_starts : MethodName := ⟨RX8, "starts", "(IIII)V"⟩
abbrev cX8_placeOf : ByteArray := prog_10_method_54_code
def yX8_placeOf : MethodName := ⟨RX8, "placeOf", "(I)I"⟩
abbrev cX8_freeSlot : ByteArray := prog_10_method_55_code
def yX8_freeSlot : MethodName := ⟨RX8, "freeSlot", "()I"⟩
abbrev cX8_leaves : ByteArray := prog_10_method_56_code
def yX8_leaves : MethodName := ⟨RX8, "leaves", "(I)V"⟩
abbrev cX8_segments : ByteArray := prog_10_method_57_code
def yX8_segments : MethodName := ⟨RX8, "segments", "(II)V"⟩
abbrev cX8_handlesText : ByteArray := prog_10_method_58_code
def yX8_handlesText : MethodName := ⟨RX8, "handlesText", "(I)V"⟩
abbrev cX8_wrong : ByteArray := prog_10_method_59_code
def yX8_wrong : MethodName := ⟨RX8, "wrong", "(II)I"⟩
abbrev cX8_segment : ByteArray := prog_10_method_60_code
def yX8_segment : MethodName := ⟨RX8, "segment", "(II)I"⟩
abbrev cX8_asked : ByteArray := prog_10_method_61_code
def yX8_asked : MethodName := ⟨RX8, "asked", "(I)I"⟩
abbrev cX8_finish : ByteArray := prog_10_method_62_code
def yX8_finish : MethodName := ⟨RX8, "finish", "(I)I"⟩
abbrev cX8_flow : ByteArray := prog_10_method_63_code
def yX8_flow : MethodName := ⟨RX8, "flow", "(I)I"⟩
abbrev cX8_possibleMany : ByteArray := prog_10_method_64_code
def yX8_possibleMany : MethodName := ⟨RX8, "possibleMany", "()I"⟩
abbrev cX8_propertyNow : ByteArray := prog_10_method_65_code
def yX8_propertyNow : MethodName := ⟨RX8, "propertyNow", "(I)I"⟩
abbrev cX8_property : ByteArray := prog_10_method_66_code
def yX8_property : MethodName := ⟨RX8, "property", "(II)I"⟩
abbrev cX8_byteNow : ByteArray := prog_10_method_67_code
def yX8_byteNow : MethodName := ⟨RX8, "byteNow", "(I)I"⟩
abbrev cX8_byteAt : ByteArray := prog_10_method_68_code
def yX8_byteAt : MethodName := ⟨RX8, "byteAt", "(II)I"⟩
abbrev cX8_possibleNow : ByteArray := prog_10_method_69_code
def yX8_possibleNow : MethodName := ⟨RX8, "possibleNow", "()J"⟩
abbrev cX8_possible : ByteArray := prog_10_method_70_code
def yX8_possible : MethodName := ⟨RX8, "possible", "(I)J"⟩
abbrev cX8_readNow : ByteArray := prog_10_method_71_code
def yX8_readNow : MethodName := ⟨RX8, "readNow", "(I)I"⟩
abbrev cX8_read : ByteArray := prog_10_method_72_code
def yX8_read : MethodName := ⟨RX8, "read", "(II)I"⟩
abbrev cX8_find : ByteArray := prog_10_method_73_code
def yX8_find : MethodName := ⟨RX8, "find", "(II)I"⟩
abbrev cX8_definedSet : ByteArray := prog_10_method_74_code
def yX8_definedSet : MethodName := ⟨RX8, "definedSet", "()I"⟩
abbrev cX8_told : ByteArray := prog_10_method_75_code
def yX8_told : MethodName := ⟨RX8, "told", "(I)I"⟩
abbrev cX8_ifSegment : ByteArray := prog_10_method_76_code
def yX8_ifSegment : MethodName := ⟨RX8, "ifSegment", "(II)I"⟩
abbrev cX8_replays : ByteArray := prog_10_method_77_code
def yX8_replays : MethodName := ⟨RX8, "replays", "(II)I"⟩
abbrev cX8_replay : ByteArray := prog_10_method_78_code
def yX8_replay : MethodName := ⟨RX8, "replay", "(II)I"⟩
abbrev cX8_evasions : ByteArray := prog_10_method_79_code
def yX8_evasions : MethodName := ⟨RX8, "evasions", "(I)I"⟩
abbrev cX8_nearest : ByteArray := prog_10_method_80_code
def yX8_nearest : MethodName := ⟨RX8, "nearest", "(I)I"⟩
abbrev cX8_undo : ByteArray := prog_10_method_81_code
def yX8_undo : MethodName := ⟨RX8, "undo", "()I"⟩
abbrev cX8_mixedFlow : ByteArray := prog_10_method_82_code
def yX8_mixedFlow : MethodName := ⟨RX8, "mixedFlow", "(JI)J"⟩
abbrev cX8_digest : ByteArray := prog_10_method_83_code
def yX8_digest : MethodName := ⟨RX8, "digest", "()J"⟩
def RJ6 : String := "java/lang/Integer"
def TJ6 : u_T := fun k => match k with
  | _ => ("", "", "", false)
def tyJ6 : Nat → FieldType := fun k => match k with
  | _ => .int
abbrev wsJ60 : List Cond := u_ws RJ6 TJ6 0
theorem nmJ6 : ∀ a, a < 0 → ∀ b, b < 0 → a ≠ b → (TJ6 a).2.1 ≠ (TJ6 b).2.1 := by decide +kernel
theorem tyJ6_ok : ∀ k, k < 0 → parseFieldDescriptor (TJ6 k).2.2.1 = some (tyJ6 k) := by decide +kernel
abbrev cJ6_bitCount_0f7a4 : ByteArray := prog_11_method_49_code
def yJ6_bitCount_0f7a4 : MethodName := ⟨RJ6, "bitCount", "(I)I"⟩
def RJ13 : String := "java/lang/Long"
def TJ13 : u_T := fun k => match k with
  | _ => ("", "", "", false)
def tyJ13 : Nat → FieldType := fun k => match k with
  | _ => .int
abbrev wsJ130 : List Cond := u_ws RJ13 TJ13 0
theorem nmJ13 : ∀ a, a < 0 → ∀ b, b < 0 → a ≠ b → (TJ13 a).2.1 ≠ (TJ13 b).2.1 := by decide +kernel
theorem tyJ13_ok : ∀ k, k < 0 → parseFieldDescriptor (TJ13 k).2.2.1 = some (tyJ13 k) := by decide +kernel
abbrev cJ13_bitCount_95d88 : ByteArray := prog_12_method_50_code
def yJ13_bitCount_95d88 : MethodName := ⟨RJ13, "bitCount", "(J)I"⟩
def RJ9 : String := "java/lang/Math"
def TJ9 : u_T := fun k => match k with
  | _ => ("", "", "", false)
def tyJ9 : Nat → FieldType := fun k => match k with
  | _ => .int
abbrev wsJ90 : List Cond := u_ws RJ9 TJ9 0
theorem nmJ9 : ∀ a, a < 0 → ∀ b, b < 0 → a ≠ b → (TJ9 a).2.1 ≠ (TJ9 b).2.1 := by decide +kernel
theorem tyJ9_ok : ∀ k, k < 0 → parseFieldDescriptor (TJ9 k).2.2.1 = some (tyJ9 k) := by decide +kernel
abbrev cJ9_max_7cf53 : ByteArray := prog_13_method_65_code
def yJ9_max_7cf53 : MethodName := ⟨RJ9, "max", "(II)I"⟩
abbrev cJ9_min_7cf53 : ByteArray := prog_13_method_69_code
def yJ9_min_7cf53 : MethodName := ⟨RJ9, "min", "(II)I"⟩
def RJ10 : String := "java/lang/System"
def TJ10 : u_T := fun k => match k with
  | _ => ("", "", "", false)
def tyJ10 : Nat → FieldType := fun k => match k with
  | _ => .int
abbrev wsJ100 : List Cond := u_ws RJ10 TJ10 0
theorem nmJ10 : ∀ a, a < 0 → ∀ b, b < 0 → a ≠ b → (TJ10 a).2.1 ≠ (TJ10 b).2.1 := by decide +kernel
theorem tyJ10_ok : ∀ k, k < 0 → parseFieldDescriptor (TJ10 k).2.2.1 = some (tyJ10 k) := by decide +kernel
def RJ7 : String := "java/util/Arrays"
def TJ7 : u_T := fun k => match k with
  | _ => ("", "", "", false)
def tyJ7 : Nat → FieldType := fun k => match k with
  | _ => .int
abbrev wsJ70 : List Cond := u_ws RJ7 TJ7 0
theorem nmJ7 : ∀ a, a < 0 → ∀ b, b < 0 → a ≠ b → (TJ7 a).2.1 ≠ (TJ7 b).2.1 := by decide +kernel
theorem tyJ7_ok : ∀ k, k < 0 → parseFieldDescriptor (TJ7 k).2.2.1 = some (tyJ7 k) := by decide +kernel
abbrev cJ7_fill_53178 : ByteArray := prog_15_method_103_code
def yJ7_fill_53178 : MethodName := ⟨RJ7, "fill", "([II)V"⟩
def RL : String := "TornStreamsLaw"
abbrev cL_law : ByteArray := code
def yL_law : MethodName := ⟨RL, "law", "([I)Z"⟩
abbrev vwCl : List vw_C := [(RX0, TX0, 9), (RX1, TX1, 6), (RX2, TX2, 12), (RX3, TX3, 15), (RX4, TX4, 4), (RX5, TX5, 6), (RX6, TX6, 2), (RX7, TX7, 8), (RX8, TX8, 17)]
end
section
/-! THE PLAIN MACHINE: a store, and what each instruction asks of it (a predicate transformer). A cell: an array (its type, length, contents) or an object (its class' number, its fields); an array marked .short is one of ints that is only read. -/
abbrev jx_E : Type := (FieldType × vp_A) ⊕ (Nat × List Value)
/-- where the next cell comes; the static references; the cells -/
abbrev jx_W : Type := Nat × (Nat → Nat) × (Nat → Option jx_E)
abbrev jx_L : Type := List (Nat × Value)
abbrev jx_Q : Type := jx_W → Option Value → Prop
abbrev jx_K : Type := jx_L → List Value → Nat → Nat → jx_W → Prop
abbrev jx_C : Type := Nat → List Value → jx_W → jx_Q → Prop
abbrev jx_J : Type := Nat → jx_K
abbrev jx_T : Type := jx_C → jx_J → jx_Q → jx_K → jx_K
/-- an instruction: its length, itself, what it is linked to -/
abbrev jx_I : Type := Nat × Instr × List Nat
def jx_up (w : jx_W) (a : Nat) (e : jx_E) : jx_W := (w.1, w.2.1, fun b => if b = a then some e else w.2.2 b)
def jx_al (w : jx_W) (e : jx_E) : jx_W := (w.1 + 1, w.2.1, fun b => if b = w.1 then some e else w.2.2 b)
def jx_ob (w : jx_W) (a ci : Nat) (fs : List Value) : Prop := w.2.2 a = some (.inr (ci, fs))
def jx_ia (w : jx_W) (a n : Nat) (f : Nat → Int32) : Prop := w.2.2 a = some (.inl (.int, n, .inl f))
def jx_ba (w : jx_W) (a n : Nat) (f : Nat → Int32) : Prop := w.2.2 a = some (.inl (.byte, n, .inl f))
def jx_ro (w : jx_W) (a n : Nat) (f : Nat → Int32) : Prop := w.2.2 a = some (.inl (.short, n, .inl f))
def jx_ra (w : jx_W) (a : Nat) (C : String) (n : Nat) (f : Nat → Option Nat) : Prop := w.2.2 a = some (.inl (.object C, n, .inr (.inr (.inr (.inr f)))))
def jx_uob (w : jx_W) (a ci : Nat) (fs : List Value) : jx_W := jx_up w a (.inr (ci, fs))
def jx_uia (w : jx_W) (a n : Nat) (f : Nat → Int32) : jx_W := jx_up w a (.inl (.int, n, .inl f))
def jx_uba (w : jx_W) (a n : Nat) (f : Nat → Int32) : jx_W := jx_up w a (.inl (.byte, n, .inl f))
def jx_ura (w : jx_W) (a : Nat) (C : String) (n : Nat) (f : Nat → Option Nat) : jx_W := jx_up w a (.inl (.object C, n, .inr (.inr (.inr (.inr f)))))
def jx_nm (ci : Nat) : String := match vwCl[ci]? with
  | some r => r.1
  | none => ""
def jx_get : jx_L → Nat → Option Value
  | [], _ => none
  | (j, v) :: t, i => match Nat.beq j i with
    | true => some v
    | false => jx_get t i
def jx_s1 (lv : jx_L) (i : Nat) (v : Value) : jx_L := (i, v) :: lv.filter (fun q => !(q.1 == i) && !(q.1 + 1 == i && q.2.category == 2))
def jx_s2 (lv : jx_L) (i : Nat) (v : Value) : jx_L := (i, v) :: lv.filter (fun q => !(q.1 == i) && (!(q.1 == i + 1) && !(q.1 + 1 == i && q.2.category == 2)))
/-- the locals that a block wants, in its order -/
def jx_pick : List Nat → jx_L → jx_L
  | [], _ => []
  | i :: t, lv => match jx_get lv i with
    | some v => (i, v) :: jx_pick t lv
    | none => jx_pick t lv
def jx_lit : List Nat → Int32
  | [0, n] => Int32.ofNat n
  | [1, n] => -(Int32.ofNat n)
  | _ => 0
def jt_bad : jx_T := fun _ _ _ _ _ _ _ _ _ => False
def jt_c (v : Value) : jx_T := fun _ _ _ k lv st bc bs w => k lv (v :: st) bc bs w
def jt_ldi (i : Nat) : jx_T := fun _ _ _ k lv st bc bs w => match jx_get lv i with
  | some (.int x) => k lv (.int x :: st) bc bs w
  | _ => False
def jt_ldl (i : Nat) : jx_T := fun _ _ _ k lv st bc bs w => match jx_get lv i with
  | some (.long x) => k lv (.long x :: st) bc bs w
  | _ => False
def jt_lda (i : Nat) : jx_T := fun _ _ _ k lv st bc bs w => match jx_get lv i with
  | some (.ref x) => k lv (.ref x :: st) bc bs w
  | _ => False
def jt_sti (i : Nat) : jx_T := fun _ _ _ k lv st bc bs w => match st with
  | .int x :: r => k (jx_s1 lv i (.int x)) r bc bs w
  | _ => False
def jt_stl (i : Nat) : jx_T := fun _ _ _ k lv st bc bs w => match st with
  | .long x :: r => k (jx_s2 lv i (.long x)) r bc bs w
  | _ => False
def jt_sta (i : Nat) : jx_T := fun _ _ _ k lv st bc bs w => match st with
  | .ref x :: r => k (jx_s1 lv i (.ref x)) r bc bs w
  | _ => False
def jt_inc (i : Nat) (v : Int32) : jx_T := fun _ _ _ k lv st bc bs w => match jx_get lv i with
  | some (.int x) => k (jx_s1 lv i (.int (x + v))) st bc bs w
  | _ => False
def jt_ii (f : Int32 → Int32 → Int32) : jx_T := fun _ _ _ k lv st bc bs w => match st with
  | .int y :: .int x :: r => k lv (.int (f x y) :: r) bc bs w
  | _ => False
def jt_irem : jx_T := fun _ _ _ k lv st bc bs w => match st with
  | .int y :: .int x :: r => ¬ y = 0 ∧ k lv (.int (x - x / y * y) :: r) bc bs w
  | _ => False
def jt_ll (f : Int64 → Int64 → Int64) : jx_T := fun _ _ _ k lv st bc bs w => match st with
  | .long y :: .long x :: r => k lv (.long (f x y) :: r) bc bs w
  | _ => False
def jt_li (f : Int64 → Int32 → Int64) : jx_T := fun _ _ _ k lv st bc bs w => match st with
  | .int y :: .long x :: r => k lv (.long (f x y) :: r) bc bs w
  | _ => False
def jt_lcmp : jx_T := fun _ _ _ k lv st bc bs w => match st with
  | .long y :: .long x :: r => k lv (.int (lg_cmp x y) :: r) bc bs w
  | _ => False
def jt_i2l : jx_T := fun _ _ _ k lv st bc bs w => match st with
  | .int x :: r => k lv (.long x.toInt64 :: r) bc bs w
  | _ => False
def jt_l2i : jx_T := fun _ _ _ k lv st bc bs w => match st with
  | .long x :: r => k lv (.int x.toInt32 :: r) bc bs w
  | _ => False
def jt_i2b : jx_T := fun _ _ _ k lv st bc bs w => match st with
  | .int x :: r => k lv (.int x.toInt8.toInt32 :: r) bc bs w
  | _ => False
def jt_dup : jx_T := fun _ _ _ k lv st bc bs w => match st with
  | .int x :: r => k lv (.int x :: .int x :: r) bc bs w
  | .ref x :: r => k lv (.ref x :: .ref x :: r) bc bs w
  | _ => False
def jt_dup2 : jx_T := fun _ _ _ k lv st bc bs w => match st with
  | .int y :: .ref x :: r => k lv (.int y :: .ref x :: .int y :: .ref x :: r) bc bs w
  | _ => False
def jt_pop : jx_T := fun _ _ _ k lv st bc bs w => match st with
  | .int _ :: r => k lv r bc bs w
  | .ref _ :: r => k lv r bc bs w
  | _ => False
def jt_if (f g : Int32 → Prop) (b : Nat) : jx_T := fun _ j _ k lv st bc bs w => match st with
  | .int x :: r => (f x → j b lv r bc bs w) ∧ (g x → k lv r bc bs w)
  | _ => False
def jt_cmp (f g : Int32 → Int32 → Prop) (b : Nat) : jx_T := fun _ j _ k lv st bc bs w => match st with
  | .int y :: .int x :: r => (f x y → j b lv r bc bs w) ∧ (g x y → k lv r bc bs w)
  | _ => False
def jt_go (b : Nat) : jx_T := fun _ j _ _ lv st bc bs w => j b lv st bc bs w
/-- a table of jumps from lo on, then the default's -/
def jx_sw (x : Int32) (lo : Int) (d : Nat) (jj : Nat → Prop) : List Nat → Int → Prop
  | [], n => (x.toInt < lo ∨ n ≤ x.toInt) → jj d
  | b :: t, n => (x.toInt = n → jj b) ∧ jx_sw x lo d jj t (n + 1)
def jt_sw (lo : Int) (d : Nat) (bs0 : List Nat) : jx_T := fun _ j _ _ lv st bc bs w => match st with
  | .int x :: r => jx_sw x lo d (fun b => j b lv r bc bs w) bs0 lo
  | _ => False
def jt_gfi (ci i : Nat) : jx_T := fun _ _ _ k lv st bc bs w => match st with
  | .ref a :: r => ∃ (fs : List Value) (x : Int32), jx_ob w a ci fs ∧ fs[i]? = some (.int x) ∧ k lv (.int x :: r) bc bs w
  | _ => False
def jt_gfl (ci i : Nat) : jx_T := fun _ _ _ k lv st bc bs w => match st with
  | .ref a :: r => ∃ (fs : List Value) (x : Int64), jx_ob w a ci fs ∧ fs[i]? = some (.long x) ∧ k lv (.long x :: r) bc bs w
  | _ => False
def jt_gfr (ci i : Nat) : jx_T := fun _ _ _ k lv st bc bs w => match st with
  | .ref a :: r => ∃ (fs : List Value) (x : Nat), jx_ob w a ci fs ∧ fs[i]? = some (.ref x) ∧ k lv (.ref x :: r) bc bs w
  | _ => False
def jt_pfi (ci i : Nat) : jx_T := fun _ _ _ k lv st bc bs w => match st with
  | .int x :: .ref a :: r => ∃ fs : List Value, jx_ob w a ci fs ∧ i < fs.length ∧ k lv r bc bs (jx_uob w a ci (fs.set i (.int x)))
  | _ => False
def jt_pfz (ci i : Nat) : jx_T := fun _ _ _ k lv st bc bs w => match st with
  | .int x :: .ref a :: r => ∃ fs : List Value, jx_ob w a ci fs ∧ i < fs.length ∧ (x = 0 ∨ x = 1) ∧ k lv r bc bs (jx_uob w a ci (fs.set i (.int x)))
  | _ => False
def jt_pfl (ci i : Nat) : jx_T := fun _ _ _ k lv st bc bs w => match st with
  | .long x :: .ref a :: r => ∃ fs : List Value, jx_ob w a ci fs ∧ i < fs.length ∧ k lv r bc bs (jx_uob w a ci (fs.set i (.long x)))
  | _ => False
def jt_pfr (ci i : Nat) : jx_T := fun _ _ _ k lv st bc bs w => match st with
  | .ref x :: .ref a :: r => ∃ fs : List Value, jx_ob w a ci fs ∧ i < fs.length ∧ k lv r bc bs (jx_uob w a ci (fs.set i (.ref x)))
  | _ => False
def jt_gs (i : Nat) : jx_T := fun _ _ _ k lv st bc bs w => k lv (.ref (w.2.1 i) :: st) bc bs w
def jt_iald : jx_T := fun _ _ _ k lv st bc bs w => match st with
  | .int i :: .ref a :: r => ∃ (n : Nat) (f : Nat → Int32), jx_ia w a n f ∧ vp_in i n ∧ k lv (.int (f i.toNatClampNeg) :: r) bc bs w
  | _ => False
def jt_rald : jx_T := fun _ _ _ k lv st bc bs w => match st with
  | .int i :: .ref a :: r => ∃ (n : Nat) (f : Nat → Int32), jx_ro w a n f ∧ vp_in i n ∧ k lv (.int (f i.toNatClampNeg) :: r) bc bs w
  | _ => False
def jt_bald : jx_T := fun _ _ _ k lv st bc bs w => match st with
  | .int i :: .ref a :: r => ∃ (n : Nat) (f : Nat → Int32), jx_ba w a n f ∧ vp_in i n ∧ k lv (.int (f i.toNatClampNeg) :: r) bc bs w
  | _ => False
def jt_aald (ci : Nat) : jx_T := fun _ _ _ k lv st bc bs w => match st with
  | .int i :: .ref a :: r => ∃ (n : Nat) (f : Nat → Option Nat) (b : Nat), jx_ra w a (jx_nm ci) n f ∧ vp_in i n ∧ f i.toNatClampNeg = some b ∧ k lv (.ref b :: r) bc bs w
  | _ => False
def jt_iast : jx_T := fun _ _ _ k lv st bc bs w => match st with
  | .int x :: .int i :: .ref a :: r => ∃ (n : Nat) (f : Nat → Int32), jx_ia w a n f ∧ vp_in i n ∧ k lv r bc bs (jx_uia w a n (upd f i.toNatClampNeg x))
  | _ => False
def jt_bast : jx_T := fun _ _ _ k lv st bc bs w => match st with
  | .int x :: .int i :: .ref a :: r => ∃ (n : Nat) (f : Nat → Int32), jx_ba w a n f ∧ vp_in i n ∧ k lv r bc bs (jx_uba w a n (upd f i.toNatClampNeg (vp_nar .byte x)))
  | _ => False
def jt_aast (ci : Nat) : jx_T := fun _ _ _ k lv st bc bs w => match st with
  | .ref v :: .int i :: .ref a :: r => ∃ (n : Nat) (f : Nat → Option Nat) (vs : List Value), jx_ra w a (jx_nm ci) n f ∧ jx_ob w v ci vs ∧ vp_in i n ∧ k lv r bc bs (jx_ura w a (jx_nm ci) n (va_up f i.toNatClampNeg (some v)))
  | _ => False
def jt_ilen : jx_T := fun _ _ _ k lv st bc bs w => match st with
  | .ref a :: r => ∃ (n : Nat) (f : Nat → Int32), jx_ia w a n f ∧ k lv (.int (Int32.ofNat n) :: r) bc bs w
  | _ => False
def jt_rlen : jx_T := fun _ _ _ k lv st bc bs w => match st with
  | .ref a :: r => ∃ (n : Nat) (f : Nat → Int32), jx_ro w a n f ∧ k lv (.int (Int32.ofNat n) :: r) bc bs w
  | _ => False
def jt_blen : jx_T := fun _ _ _ k lv st bc bs w => match st with
  | .ref a :: r => ∃ (n : Nat) (f : Nat → Int32), jx_ba w a n f ∧ k lv (.int (Int32.ofNat n) :: r) bc bs w
  | _ => False
/-- an object of class ci with N fields, as it is born -/
def jt_new (ci N : Nat) (fs : List Value) : jx_T := fun _ _ _ k lv st bc bs w => 1 ≤ bc ∧ N ≤ bs ∧ k lv (.ref w.1 :: st) (bc - 1) (bs - N) (jx_al w (.inr (ci, fs)))
def jt_newi : jx_T := fun _ _ _ k lv st bc bs w => match st with
  | .int n :: r => ∃ N : Nat, n = Int32.ofNat N ∧ N ≤ 100000 ∧ 1 ≤ bc ∧ N ≤ bs ∧ k lv (.ref w.1 :: r) (bc - 1) (bs - N) (jx_al w (.inl (.int, N, .inl (fun _ => 0))))
  | _ => False
def jt_newb : jx_T := fun _ _ _ k lv st bc bs w => match st with
  | .int n :: r => ∃ N : Nat, n = Int32.ofNat N ∧ N ≤ 100000 ∧ 1 ≤ bc ∧ N ≤ bs ∧ k lv (.ref w.1 :: r) (bc - 1) (bs - N) (jx_al w (.inl (.byte, N, .inl (fun _ => 0))))
  | _ => False
def jt_newr (ci : Nat) : jx_T := fun _ _ _ k lv st bc bs w => match st with
  | .int n :: r => ∃ N : Nat, n = Int32.ofNat N ∧ N ≤ 100000 ∧ 1 ≤ bc ∧ N ≤ bs ∧ k lv (.ref w.1 :: r) (bc - 1) (bs - N) (jx_al w (.inl (.object (jx_nm ci), N, .inr (.inr (.inr (.inr (fun _ => none)))))))
  | _ => False
def jt_cpy (ty : FieldType) : jx_T := fun _ _ _ k lv st bc bs w => match st with
  | .int n :: .int dp :: .ref a :: .int sp :: .ref a0 :: r => ∃ (n0 n1 : Nat) (f g : Nat → Int32), w.2.2 a0 = some (.inl (ty, n0, .inl f)) ∧ w.2.2 a = some (.inl (ty, n1, .inl g)) ∧ ¬ sp < 0 ∧ ¬ dp < 0 ∧ ¬ n < 0 ∧ sp.toNatClampNeg + n.toNatClampNeg ≤ n0 ∧ dp.toNatClampNeg + n.toNatClampNeg ≤ n1 ∧ (∀ i, i < n.toNatClampNeg → fits ty (.int (f (sp.toNatClampNeg + i))) = true) ∧ k lv r bc bs (jx_up w a (.inl (ty, n1, .inl (va_cpy f g sp.toNatClampNeg dp.toNatClampNeg n.toNatClampNeg))))
  | _ => False
def jt_oi : jx_T := fun _ _ _ k lv st bc bs w => match st with
  | .ref _ :: r => k lv r bc bs w
  | _ => False
def jt_ri : jx_T := fun _ _ q _ _ st _ _ w => match st with
  | [.int x] => q w (some (.int x))
  | _ => False
def jt_rz : jx_T := fun _ _ q _ _ st _ _ w => match st with
  | [.int x] => (x = 0 ∨ x = 1) ∧ q w (some (.int x))
  | _ => False
def jt_rl : jx_T := fun _ _ q _ _ st _ _ w => match st with
  | [.long x] => q w (some (.long x))
  | _ => False
def jt_rr : jx_T := fun _ _ q _ _ st _ _ w => match st with
  | [.ref x] => q w (some (.ref x))
  | _ => False
def jt_rv : jx_T := fun _ _ q _ _ st _ _ w => match st with
  | [] => q w none
  | _ => False
/-- a method: its name, code, locals, answer, the cells and slots that it may make, its frames and locals' words below it -/
abbrev jx_Me : Type := MethodName × ByteArray × Nat × Option FieldType × (Nat × Nat) × (Nat × Nat)
/-- a call of y with na values off the stack; rk: what comes back (0 nothing, 1 int, 2 long, 3 reference) -/
def jx_ret (rk : Nat) (k : List Value → jx_W → Prop) (rest : List Value) : jx_Q := match rk with
  | 0 => fun w _ => k rest w
  | 1 => fun w r => ∃ x : Int32, r = some (.int x) ∧ k (.int x :: rest) w
  | 2 => fun w r => ∃ x : Int64, r = some (.long x) ∧ k (.long x :: rest) w
  | _ => fun w r => ∃ x : Nat, r = some (.ref x) ∧ k (.ref x :: rest) w
def jx_fit (rest : List Value) (args : List Value) (maxL : Nat) : Bool := Nat.ble ((rest.map fun v => v.category).sum) 8 && Nat.ble (lg_sl args).length maxL
def jt_call (Tb : Nat → jx_Me) (y na rk : Nat) : jx_T := fun c _ _ k lv st bc bs w => match jx_fit (st.drop na) (st.take na).reverse (Tb y).2.2.1, Nat.beq (st.take na).length na with
  | true, true => c y (st.take na).reverse w (jx_ret rk (fun st' w' => k lv st' bc bs w') (st.drop na))
  | _, _ => False
/-- a call on an object of class ci -/
def jt_callV (Tb : Nat → jx_Me) (ci y na rk : Nat) : jx_T := fun c _ _ k lv st bc bs w => match jx_fit (st.drop na) (st.take na).reverse (Tb y).2.2.1, Nat.beq (st.take na).length na, (st.take na).reverse with
  | true, true, .ref a :: As => (∃ fs, jx_ob w a ci fs) ∧ c y (.ref a :: As) w (jx_ret rk (fun st' w' => k lv st' bc bs w') (st.drop na))
  | _, _, _ => False
/-- a constructor's call: it makes cells -/
def jt_callA (Tb : Nat → jx_Me) (y na : Nat) : jx_T := fun c _ _ k lv st bc bs w => match jx_fit (st.drop na) (st.take na).reverse (Tb y).2.2.1, Nat.beq (st.take na).length na, (st.take na).reverse with
  | true, true, .ref a :: As => (Tb y).2.2.2.2.1.1 ≤ bc ∧ (Tb y).2.2.2.2.1.2 ≤ bs ∧ c y (.ref a :: As) w (fun w' _ => k lv (st.drop na) (bc - (Tb y).2.2.2.2.1.1) (bs - (Tb y).2.2.2.2.1.2) w')
  | _, _, _ => False
end
section
theorem jx_good1 : (lw_tbl.filter (fun w => match w with | .methodLinkNest .. => false | _ => true)).all goodWord = true := by decide +kernel
theorem jx_good2 : (lw_tbl.filter (fun w => match w with | .methodLinkNest .. => false | .arrayOver .. => false | _ => true)).all goodWord = true := by decide +kernel
theorem jx_good3 : (lw_tbl.filter (fun w => match w with | .methodLinkNest .. => false | .arrayOver .. => false | .superclass .. => false | _ => true)).all goodWord = true := by decide +kernel
theorem jx_good4 : (lw_tbl.filter (fun w => match w with | .methodLinkNest .. => false | .arrayOver .. => false | .superclass .. => false | .soleField .. => false | _ => true)).all goodWord = true := by decide +kernel
theorem jx_good5 : (lw_tbl.filter (fun w => match w with | .methodLinkNest .. => false | .arrayOver .. => false | .superclass .. => false | .soleField .. => false | .laysStatic .. => false | _ => true)).all goodWord = true := by decide +kernel
end
