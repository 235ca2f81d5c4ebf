section
-- ===== PART A: goes FIRST, ahead of the names: the tables' words, and 'selects' of the private methods out of them =====
/-- a private method of a class that the tables say can be made, by its rows of tables_1 -/
def lw_okq (q : MethodName × Nat) : Prop := (q.1.cls ≠ "java/lang/invoke/MethodHandle" ∧ q.1.cls ≠ "java/lang/invoke/VarHandle") ∧ Cond.instantiable q.1.cls q.2 ∈ tables_1 ∧ Cond.privateMethod q.1 ∈ tables_1 ∧ Cond.instanceMethod q.1 ∈ tables_1
theorem lw_p0 : lw_okq (⟨"TraceMachines", "remember", "()V"⟩, 20) := ⟨⟨by decide +kernel, by decide +kernel⟩, List.mem_of_getElem? (i := 24) (by decide +kernel), List.mem_of_getElem? (i := 525) (by decide +kernel), List.mem_of_getElem? (i := 526) (by decide +kernel)⟩
theorem lw_p1 : lw_okq (⟨"TraceMachines", "forgetFound", "()V"⟩, 20) := ⟨⟨by decide +kernel, by decide +kernel⟩, List.mem_of_getElem? (i := 24) (by decide +kernel), List.mem_of_getElem? (i := 529) (by decide +kernel), List.mem_of_getElem? (i := 530) (by decide +kernel)⟩
theorem lw_p2 : lw_okq (⟨"TraceMachines", "machine", "(I)LTraceMachines$Machine;"⟩, 20) := ⟨⟨by decide +kernel, by decide +kernel⟩, List.mem_of_getElem? (i := 24) (by decide +kernel), List.mem_of_getElem? (i := 564) (by decide +kernel), List.mem_of_getElem? (i := 565) (by decide +kernel)⟩
theorem lw_p3 : lw_okq (⟨"TraceMachines$Tree", "follow", "(LTraceMachines$Traces;I)V"⟩, 11) := ⟨⟨by decide +kernel, by decide +kernel⟩, List.mem_of_getElem? (i := 90) (by decide +kernel), List.mem_of_getElem? (i := 572) (by decide +kernel), List.mem_of_getElem? (i := 573) (by decide +kernel)⟩
theorem lw_p4 : lw_okq (⟨"TraceMachines$Tree", "addPrefix", "(II)I"⟩, 11) := ⟨⟨by decide +kernel, by decide +kernel⟩, List.mem_of_getElem? (i := 90) (by decide +kernel), List.mem_of_getElem? (i := 576) (by decide +kernel), List.mem_of_getElem? (i := 577) (by decide +kernel)⟩
theorem lw_p5 : lw_okq (⟨"TraceMachines$Tree", "stepFrom", "(II)I"⟩, 11) := ⟨⟨by decide +kernel, by decide +kernel⟩, List.mem_of_getElem? (i := 90) (by decide +kernel), List.mem_of_getElem? (i := 584) (by decide +kernel), List.mem_of_getElem? (i := 585) (by decide +kernel)⟩
theorem lw_p6 : lw_okq (⟨"TraceMachines$Follows", "insert", "(II)V"⟩, 3) := ⟨⟨by decide +kernel, by decide +kernel⟩, List.mem_of_getElem? (i := 141) (by decide +kernel), List.mem_of_getElem? (i := 615) (by decide +kernel), List.mem_of_getElem? (i := 616) (by decide +kernel)⟩
theorem lw_p7 : lw_okq (⟨"TraceMachines$Machine", "foldStates", "(LTraceMachines$Tree;LTraceMachines$Follows;)V"⟩, 15) := ⟨⟨by decide +kernel, by decide +kernel⟩, List.mem_of_getElem? (i := 159) (by decide +kernel), List.mem_of_getElem? (i := 619) (by decide +kernel), List.mem_of_getElem? (i := 620) (by decide +kernel)⟩
theorem lw_p8 : lw_okq (⟨"TraceMachines$Follows", "hashOf", "(I)I"⟩, 3) := ⟨⟨by decide +kernel, by decide +kernel⟩, List.mem_of_getElem? (i := 141) (by decide +kernel), List.mem_of_getElem? (i := 630) (by decide +kernel), List.mem_of_getElem? (i := 631) (by decide +kernel)⟩
theorem lw_p9 : lw_okq (⟨"TraceMachines$Follows", "isLike", "(II)Z"⟩, 3) := ⟨⟨by decide +kernel, by decide +kernel⟩, List.mem_of_getElem? (i := 141) (by decide +kernel), List.mem_of_getElem? (i := 634) (by decide +kernel), List.mem_of_getElem? (i := 635) (by decide +kernel)⟩
theorem lw_p10 : lw_okq (⟨"TraceMachines$Machine", "gatherKeys", "(LTraceMachines$Tree;)V"⟩, 15) := ⟨⟨by decide +kernel, by decide +kernel⟩, List.mem_of_getElem? (i := 159) (by decide +kernel), List.mem_of_getElem? (i := 638) (by decide +kernel), List.mem_of_getElem? (i := 639) (by decide +kernel)⟩
theorem lw_p11 : lw_okq (⟨"TraceMachines$Machine", "keyOf", "(LTraceMachines$Tree;I)I"⟩, 15) := ⟨⟨by decide +kernel, by decide +kernel⟩, List.mem_of_getElem? (i := 159) (by decide +kernel), List.mem_of_getElem? (i := 642) (by decide +kernel), List.mem_of_getElem? (i := 643) (by decide +kernel)⟩
theorem lw_p12 : lw_okq (⟨"TraceMachines$Machine", "placeOf", "(I)I"⟩, 15) := ⟨⟨by decide +kernel, by decide +kernel⟩, List.mem_of_getElem? (i := 159) (by decide +kernel), List.mem_of_getElem? (i := 646) (by decide +kernel), List.mem_of_getElem? (i := 647) (by decide +kernel)⟩
theorem lw_p13 : lw_okq (⟨"TraceMachines$Machine", "gatherRanges", "(LTraceMachines$Tree;)V"⟩, 15) := ⟨⟨by decide +kernel, by decide +kernel⟩, List.mem_of_getElem? (i := 159) (by decide +kernel), List.mem_of_getElem? (i := 651) (by decide +kernel), List.mem_of_getElem? (i := 652) (by decide +kernel)⟩
theorem lw_p14 : lw_okq (⟨"TraceMachines$Machine", "gatherFirsts", "()V"⟩, 15) := ⟨⟨by decide +kernel, by decide +kernel⟩, List.mem_of_getElem? (i := 159) (by decide +kernel), List.mem_of_getElem? (i := 657) (by decide +kernel), List.mem_of_getElem? (i := 658) (by decide +kernel)⟩
theorem lw_p15 : lw_okq (⟨"TraceMachines", "slack", "(Z)I"⟩, 20) := ⟨⟨by decide +kernel, by decide +kernel⟩, List.mem_of_getElem? (i := 24) (by decide +kernel), List.mem_of_getElem? (i := 697) (by decide +kernel), List.mem_of_getElem? (i := 698) (by decide +kernel)⟩
def lw_privs_1 : List (MethodName × Nat) := [(⟨"TraceMachines", "remember", "()V"⟩, 20), (⟨"TraceMachines", "forgetFound", "()V"⟩, 20), (⟨"TraceMachines", "machine", "(I)LTraceMachines$Machine;"⟩, 20), (⟨"TraceMachines$Tree", "follow", "(LTraceMachines$Traces;I)V"⟩, 11), (⟨"TraceMachines$Tree", "addPrefix", "(II)I"⟩, 11), (⟨"TraceMachines$Tree", "stepFrom", "(II)I"⟩, 11), (⟨"TraceMachines$Follows", "insert", "(II)V"⟩, 3), (⟨"TraceMachines$Machine", "foldStates", "(LTraceMachines$Tree;LTraceMachines$Follows;)V"⟩, 15), (⟨"TraceMachines$Follows", "hashOf", "(I)I"⟩, 3), (⟨"TraceMachines$Follows", "isLike", "(II)Z"⟩, 3), (⟨"TraceMachines$Machine", "gatherKeys", "(LTraceMachines$Tree;)V"⟩, 15), (⟨"TraceMachines$Machine", "keyOf", "(LTraceMachines$Tree;I)I"⟩, 15), (⟨"TraceMachines$Machine", "placeOf", "(I)I"⟩, 15), (⟨"TraceMachines$Machine", "gatherRanges", "(LTraceMachines$Tree;)V"⟩, 15), (⟨"TraceMachines$Machine", "gatherFirsts", "()V"⟩, 15), (⟨"TraceMachines", "slack", "(Z)I"⟩, 20)]
theorem lw_r1 : ∀ q ∈ lw_privs_1, lw_okq q := List.forall_mem_cons.mpr ⟨lw_p0, List.forall_mem_cons.mpr ⟨lw_p1, List.forall_mem_cons.mpr ⟨lw_p2, List.forall_mem_cons.mpr ⟨lw_p3, List.forall_mem_cons.mpr ⟨lw_p4, List.forall_mem_cons.mpr ⟨lw_p5, List.forall_mem_cons.mpr ⟨lw_p6, List.forall_mem_cons.mpr ⟨lw_p7, List.forall_mem_cons.mpr ⟨lw_p8, List.forall_mem_cons.mpr ⟨lw_p9, List.forall_mem_cons.mpr ⟨lw_p10, List.forall_mem_cons.mpr ⟨lw_p11, List.forall_mem_cons.mpr ⟨lw_p12, List.forall_mem_cons.mpr ⟨lw_p13, List.forall_mem_cons.mpr ⟨lw_p14, List.forall_mem_cons.mpr ⟨lw_p15, fun _ h => absurd h List.not_mem_nil⟩⟩⟩⟩⟩⟩⟩⟩⟩⟩⟩⟩⟩⟩⟩⟩
theorem lw_p16 : lw_okq (⟨"TraceMachines$Machine", "goOn", "(LTraceMachines$StateSets;III)V"⟩, 15) := ⟨⟨by decide +kernel, by decide +kernel⟩, List.mem_of_getElem? (i := 159) (by decide +kernel), List.mem_of_getElem? (i := 716) (by decide +kernel), List.mem_of_getElem? (i := 717) (by decide +kernel)⟩
theorem lw_p17 : lw_okq (⟨"TraceMachines$Cover", "gather", "(LTraceMachines$Traces;LTraceMachines$Tree;LTraceMachines$Machine;)V"⟩, 5) := ⟨⟨by decide +kernel, by decide +kernel⟩, List.mem_of_getElem? (i := 334) (by decide +kernel), List.mem_of_getElem? (i := 768) (by decide +kernel), List.mem_of_getElem? (i := 769) (by decide +kernel)⟩
theorem lw_p18 : lw_okq (⟨"TraceMachines$Cover", "leaveOutImplied", "()V"⟩, 5) := ⟨⟨by decide +kernel, by decide +kernel⟩, List.mem_of_getElem? (i := 334) (by decide +kernel), List.mem_of_getElem? (i := 774) (by decide +kernel), List.mem_of_getElem? (i := 775) (by decide +kernel)⟩
theorem lw_p19 : lw_okq (⟨"TraceMachines$Cover", "isImplied", "(II)Z"⟩, 5) := ⟨⟨by decide +kernel, by decide +kernel⟩, List.mem_of_getElem? (i := 334) (by decide +kernel), List.mem_of_getElem? (i := 778) (by decide +kernel), List.mem_of_getElem? (i := 779) (by decide +kernel)⟩
theorem lw_p20 : lw_okq (⟨"TraceMachines$Cover", "search", "(III)V"⟩, 5) := ⟨⟨by decide +kernel, by decide +kernel⟩, List.mem_of_getElem? (i := 334) (by decide +kernel), List.mem_of_getElem? (i := 782) (by decide +kernel), List.mem_of_getElem? (i := 783) (by decide +kernel)⟩
theorem lw_p21 : lw_okq (⟨"TraceMachines$Cover", "hardest", "(II)I"⟩, 5) := ⟨⟨by decide +kernel, by decide +kernel⟩, List.mem_of_getElem? (i := 334) (by decide +kernel), List.mem_of_getElem? (i := 786) (by decide +kernel), List.mem_of_getElem? (i := 787) (by decide +kernel)⟩
theorem lw_p22 : lw_okq (⟨"TraceMachines$Words", "stepWays", "(LTraceMachines$Machine;I)V"⟩, 8) := ⟨⟨by decide +kernel, by decide +kernel⟩, List.mem_of_getElem? (i := 258) (by decide +kernel), List.mem_of_getElem? (i := 807) (by decide +kernel), List.mem_of_getElem? (i := 808) (by decide +kernel)⟩
theorem lw_p23 : lw_okq (⟨"TraceMachines$StateSets", "hashOf", "(I)I"⟩, 5) := ⟨⟨by decide +kernel, by decide +kernel⟩, List.mem_of_getElem? (i := 234) (by decide +kernel), List.mem_of_getElem? (i := 835) (by decide +kernel), List.mem_of_getElem? (i := 836) (by decide +kernel)⟩
theorem lw_p24 : lw_okq (⟨"TraceMachines$StateSets", "append", "(LTraceMachines$StateSets;II)I"⟩, 5) := ⟨⟨by decide +kernel, by decide +kernel⟩, List.mem_of_getElem? (i := 234) (by decide +kernel), List.mem_of_getElem? (i := 840) (by decide +kernel), List.mem_of_getElem? (i := 841) (by decide +kernel)⟩
theorem lw_p25 : lw_okq (⟨"TraceMachines$StateSets", "isLike", "(ILTraceMachines$StateSets;I)Z"⟩, 5) := ⟨⟨by decide +kernel, by decide +kernel⟩, List.mem_of_getElem? (i := 234) (by decide +kernel), List.mem_of_getElem? (i := 845) (by decide +kernel), List.mem_of_getElem? (i := 846) (by decide +kernel)⟩
theorem lw_p26 : lw_okq (⟨"TraceMachines$Words", "goOn", "(LTraceMachines$Machine;)Z"⟩, 8) := ⟨⟨by decide +kernel, by decide +kernel⟩, List.mem_of_getElem? (i := 258) (by decide +kernel), List.mem_of_getElem? (i := 850) (by decide +kernel), List.mem_of_getElem? (i := 851) (by decide +kernel)⟩
theorem lw_p27 : lw_okq (⟨"TraceMachines$Words", "comeTo", "(II)Z"⟩, 8) := ⟨⟨by decide +kernel, by decide +kernel⟩, List.mem_of_getElem? (i := 258) (by decide +kernel), List.mem_of_getElem? (i := 859) (by decide +kernel), List.mem_of_getElem? (i := 860) (by decide +kernel)⟩
theorem lw_p28 : lw_okq (⟨"TraceMachines$Words", "takenNext", "(LTraceMachines$Machine;)I"⟩, 8) := ⟨⟨by decide +kernel, by decide +kernel⟩, List.mem_of_getElem? (i := 258) (by decide +kernel), List.mem_of_getElem? (i := 863) (by decide +kernel), List.mem_of_getElem? (i := 864) (by decide +kernel)⟩
theorem lw_p29 : lw_okq (⟨"TraceMachines$Parting", "begin", "(LTraceMachines$Machine;LTraceMachines$Machine;)V"⟩, 10) := ⟨⟨by decide +kernel, by decide +kernel⟩, List.mem_of_getElem? (i := 292) (by decide +kernel), List.mem_of_getElem? (i := 879) (by decide +kernel), List.mem_of_getElem? (i := 880) (by decide +kernel)⟩
theorem lw_p30 : lw_okq (⟨"TraceMachines$Parting", "spell", "(I)V"⟩, 10) := ⟨⟨by decide +kernel, by decide +kernel⟩, List.mem_of_getElem? (i := 292) (by decide +kernel), List.mem_of_getElem? (i := 888) (by decide +kernel), List.mem_of_getElem? (i := 889) (by decide +kernel)⟩
theorem lw_p31 : lw_okq (⟨"TraceMachines$Parting", "goOn", "(LTraceMachines$Machine;LTraceMachines$Machine;I)Z"⟩, 10) := ⟨⟨by decide +kernel, by decide +kernel⟩, List.mem_of_getElem? (i := 292) (by decide +kernel), List.mem_of_getElem? (i := 892) (by decide +kernel), List.mem_of_getElem? (i := 893) (by decide +kernel)⟩
def lw_privs_2 : List (MethodName × Nat) := [(⟨"TraceMachines$Machine", "goOn", "(LTraceMachines$StateSets;III)V"⟩, 15), (⟨"TraceMachines$Cover", "gather", "(LTraceMachines$Traces;LTraceMachines$Tree;LTraceMachines$Machine;)V"⟩, 5), (⟨"TraceMachines$Cover", "leaveOutImplied", "()V"⟩, 5), (⟨"TraceMachines$Cover", "isImplied", "(II)Z"⟩, 5), (⟨"TraceMachines$Cover", "search", "(III)V"⟩, 5), (⟨"TraceMachines$Cover", "hardest", "(II)I"⟩, 5), (⟨"TraceMachines$Words", "stepWays", "(LTraceMachines$Machine;I)V"⟩, 8), (⟨"TraceMachines$StateSets", "hashOf", "(I)I"⟩, 5), (⟨"TraceMachines$StateSets", "append", "(LTraceMachines$StateSets;II)I"⟩, 5), (⟨"TraceMachines$StateSets", "isLike", "(ILTraceMachines$StateSets;I)Z"⟩, 5), (⟨"TraceMachines$Words", "goOn", "(LTraceMachines$Machine;)Z"⟩, 8), (⟨"TraceMachines$Words", "comeTo", "(II)Z"⟩, 8), (⟨"TraceMachines$Words", "takenNext", "(LTraceMachines$Machine;)I"⟩, 8), (⟨"TraceMachines$Parting", "begin", "(LTraceMachines$Machine;LTraceMachines$Machine;)V"⟩, 10), (⟨"TraceMachines$Parting", "spell", "(I)V"⟩, 10), (⟨"TraceMachines$Parting", "goOn", "(LTraceMachines$Machine;LTraceMachines$Machine;I)Z"⟩, 10)]
theorem lw_r2 : ∀ q ∈ lw_privs_2, lw_okq q := List.forall_mem_cons.mpr ⟨lw_p16, List.forall_mem_cons.mpr ⟨lw_p17, List.forall_mem_cons.mpr ⟨lw_p18, List.forall_mem_cons.mpr ⟨lw_p19, List.forall_mem_cons.mpr ⟨lw_p20, List.forall_mem_cons.mpr ⟨lw_p21, List.forall_mem_cons.mpr ⟨lw_p22, List.forall_mem_cons.mpr ⟨lw_p23, List.forall_mem_cons.mpr ⟨lw_p24, List.forall_mem_cons.mpr ⟨lw_p25, List.forall_mem_cons.mpr ⟨lw_p26, List.forall_mem_cons.mpr ⟨lw_p27, List.forall_mem_cons.mpr ⟨lw_p28, List.forall_mem_cons.mpr ⟨lw_p29, List.forall_mem_cons.mpr ⟨lw_p30, List.forall_mem_cons.mpr ⟨lw_p31, fun _ h => absurd h List.not_mem_nil⟩⟩⟩⟩⟩⟩⟩⟩⟩⟩⟩⟩⟩⟩⟩⟩
theorem lw_p32 : lw_okq (⟨"TraceMachines$Pair", "look", "(LTraceMachines$Traces;III)V"⟩, 10) := ⟨⟨by decide +kernel, by decide +kernel⟩, List.mem_of_getElem? (i := 358) (by decide +kernel), List.mem_of_getElem? (i := 924) (by decide +kernel), List.mem_of_getElem? (i := 925) (by decide +kernel)⟩
theorem lw_p33 : lw_okq (⟨"TraceMachines$Pair", "forgetLooks", "()V"⟩, 10) := ⟨⟨by decide +kernel, by decide +kernel⟩, List.mem_of_getElem? (i := 358) (by decide +kernel), List.mem_of_getElem? (i := 928) (by decide +kernel), List.mem_of_getElem? (i := 929) (by decide +kernel)⟩
theorem lw_p34 : lw_okq (⟨"TraceMachines$Pair", "meetX", "(I)V"⟩, 10) := ⟨⟨by decide +kernel, by decide +kernel⟩, List.mem_of_getElem? (i := 358) (by decide +kernel), List.mem_of_getElem? (i := 933) (by decide +kernel), List.mem_of_getElem? (i := 934) (by decide +kernel)⟩
theorem lw_p35 : lw_okq (⟨"TraceMachines$Pair", "meetY", "(I)V"⟩, 10) := ⟨⟨by decide +kernel, by decide +kernel⟩, List.mem_of_getElem? (i := 358) (by decide +kernel), List.mem_of_getElem? (i := 937) (by decide +kernel), List.mem_of_getElem? (i := 938) (by decide +kernel)⟩
theorem lw_p36 : lw_okq (⟨"TraceMachines$Pair", "isAsked", "(I)Z"⟩, 10) := ⟨⟨by decide +kernel, by decide +kernel⟩, List.mem_of_getElem? (i := 358) (by decide +kernel), List.mem_of_getElem? (i := 941) (by decide +kernel), List.mem_of_getElem? (i := 942) (by decide +kernel)⟩
theorem lw_p37 : lw_okq (⟨"TraceMachines$Pair", "isSo", "(I)Z"⟩, 10) := ⟨⟨by decide +kernel, by decide +kernel⟩, List.mem_of_getElem? (i := 358) (by decide +kernel), List.mem_of_getElem? (i := 945) (by decide +kernel), List.mem_of_getElem? (i := 946) (by decide +kernel)⟩
theorem lw_p38 : lw_okq (⟨"TraceMachines$Odds", "meet", "(II)V"⟩, 3) := ⟨⟨by decide +kernel, by decide +kernel⟩, List.mem_of_getElem? (i := 397) (by decide +kernel), List.mem_of_getElem? (i := 967) (by decide +kernel), List.mem_of_getElem? (i := 968) (by decide +kernel)⟩
theorem lw_p39 : lw_okq (⟨"TraceMachines$Odds", "isOdder", "(II)Z"⟩, 3) := ⟨⟨by decide +kernel, by decide +kernel⟩, List.mem_of_getElem? (i := 397) (by decide +kernel), List.mem_of_getElem? (i := 975) (by decide +kernel), List.mem_of_getElem? (i := 976) (by decide +kernel)⟩
theorem lw_p40 : lw_okq (⟨"TraceMachines", "foldOthers", "(II)V"⟩, 20) := ⟨⟨by decide +kernel, by decide +kernel⟩, List.mem_of_getElem? (i := 24) (by decide +kernel), List.mem_of_getElem? (i := 987) (by decide +kernel), List.mem_of_getElem? (i := 988) (by decide +kernel)⟩
theorem lw_p41 : lw_okq (⟨"TraceMachines", "takenByOthers", "(IZ)Z"⟩, 20) := ⟨⟨by decide +kernel, by decide +kernel⟩, List.mem_of_getElem? (i := 24) (by decide +kernel), List.mem_of_getElem? (i := 991) (by decide +kernel), List.mem_of_getElem? (i := 992) (by decide +kernel)⟩
theorem lw_p42 : lw_okq (⟨"TraceMachines", "fitting", "(IZ)I"⟩, 20) := ⟨⟨by decide +kernel, by decide +kernel⟩, List.mem_of_getElem? (i := 24) (by decide +kernel), List.mem_of_getElem? (i := 999) (by decide +kernel), List.mem_of_getElem? (i := 1000) (by decide +kernel)⟩
theorem lw_p43 : lw_okq (⟨"java/lang/Throwable", "fillInStackTrace", "(I)Ljava/lang/Throwable;"⟩, 6) := ⟨⟨by decide +kernel, by decide +kernel⟩, List.mem_of_getElem? (i := 1071) (by decide +kernel), List.mem_of_getElem? (i := 1069) (by decide +kernel), List.mem_of_getElem? (i := 1070) (by decide +kernel)⟩
theorem lw_p44 : lw_okq (⟨"TraceMachinesModel", "readTrace", "()V"⟩, 54) := ⟨⟨by decide +kernel, by decide +kernel⟩, List.mem_of_getElem? (i := 1108) (by decide +kernel), List.mem_of_getElem? (i := 1293) (by decide +kernel), List.mem_of_getElem? (i := 1294) (by decide +kernel)⟩
theorem lw_p45 : lw_okq (⟨"TraceMachinesModel", "next", "()I"⟩, 54) := ⟨⟨by decide +kernel, by decide +kernel⟩, List.mem_of_getElem? (i := 1108) (by decide +kernel), List.mem_of_getElem? (i := 1297) (by decide +kernel), List.mem_of_getElem? (i := 1298) (by decide +kernel)⟩
theorem lw_p46 : lw_okq (⟨"TraceMachinesModel", "wrong", "()V"⟩, 54) := ⟨⟨by decide +kernel, by decide +kernel⟩, List.mem_of_getElem? (i := 1108) (by decide +kernel), List.mem_of_getElem? (i := 1301) (by decide +kernel), List.mem_of_getElem? (i := 1302) (by decide +kernel)⟩
theorem lw_p47 : lw_okq (⟨"TraceMachinesModel", "readCalls", "()V"⟩, 54) := ⟨⟨by decide +kernel, by decide +kernel⟩, List.mem_of_getElem? (i := 1108) (by decide +kernel), List.mem_of_getElem? (i := 1305) (by decide +kernel), List.mem_of_getElem? (i := 1306) (by decide +kernel)⟩
def lw_privs_3 : List (MethodName × Nat) := [(⟨"TraceMachines$Pair", "look", "(LTraceMachines$Traces;III)V"⟩, 10), (⟨"TraceMachines$Pair", "forgetLooks", "()V"⟩, 10), (⟨"TraceMachines$Pair", "meetX", "(I)V"⟩, 10), (⟨"TraceMachines$Pair", "meetY", "(I)V"⟩, 10), (⟨"TraceMachines$Pair", "isAsked", "(I)Z"⟩, 10), (⟨"TraceMachines$Pair", "isSo", "(I)Z"⟩, 10), (⟨"TraceMachines$Odds", "meet", "(II)V"⟩, 3), (⟨"TraceMachines$Odds", "isOdder", "(II)Z"⟩, 3), (⟨"TraceMachines", "foldOthers", "(II)V"⟩, 20), (⟨"TraceMachines", "takenByOthers", "(IZ)Z"⟩, 20), (⟨"TraceMachines", "fitting", "(IZ)I"⟩, 20), (⟨"java/lang/Throwable", "fillInStackTrace", "(I)Ljava/lang/Throwable;"⟩, 6), (⟨"TraceMachinesModel", "readTrace", "()V"⟩, 54), (⟨"TraceMachinesModel", "next", "()I"⟩, 54), (⟨"TraceMachinesModel", "wrong", "()V"⟩, 54), (⟨"TraceMachinesModel", "readCalls", "()V"⟩, 54)]
theorem lw_r3 : ∀ q ∈ lw_privs_3, lw_okq q := List.forall_mem_cons.mpr ⟨lw_p32, List.forall_mem_cons.mpr ⟨lw_p33, List.forall_mem_cons.mpr ⟨lw_p34, List.forall_mem_cons.mpr ⟨lw_p35, List.forall_mem_cons.mpr ⟨lw_p36, List.forall_mem_cons.mpr ⟨lw_p37, List.forall_mem_cons.mpr ⟨lw_p38, List.forall_mem_cons.mpr ⟨lw_p39, List.forall_mem_cons.mpr ⟨lw_p40, List.forall_mem_cons.mpr ⟨lw_p41, List.forall_mem_cons.mpr ⟨lw_p42, List.forall_mem_cons.mpr ⟨lw_p43, List.forall_mem_cons.mpr ⟨lw_p44, List.forall_mem_cons.mpr ⟨lw_p45, List.forall_mem_cons.mpr ⟨lw_p46, List.forall_mem_cons.mpr ⟨lw_p47, fun _ h => absurd h List.not_mem_nil⟩⟩⟩⟩⟩⟩⟩⟩⟩⟩⟩⟩⟩⟩⟩⟩
theorem lw_p48 : lw_okq (⟨"TraceMachinesModel", "isDigitHere", "()Z"⟩, 54) := ⟨⟨by decide +kernel, by decide +kernel⟩, List.mem_of_getElem? (i := 1108) (by decide +kernel), List.mem_of_getElem? (i := 1311) (by decide +kernel), List.mem_of_getElem? (i := 1312) (by decide +kernel)⟩
theorem lw_p49 : lw_okq (⟨"TraceMachinesModel", "endsReading", "()V"⟩, 54) := ⟨⟨by decide +kernel, by decide +kernel⟩, List.mem_of_getElem? (i := 1108) (by decide +kernel), List.mem_of_getElem? (i := 1317) (by decide +kernel), List.mem_of_getElem? (i := 1318) (by decide +kernel)⟩
theorem lw_p50 : lw_okq (⟨"TraceMachinesModel", "remember", "()V"⟩, 54) := ⟨⟨by decide +kernel, by decide +kernel⟩, List.mem_of_getElem? (i := 1108) (by decide +kernel), List.mem_of_getElem? (i := 1321) (by decide +kernel), List.mem_of_getElem? (i := 1322) (by decide +kernel)⟩
theorem lw_p51 : lw_okq (⟨"TraceMachinesModel", "many", "()I"⟩, 54) := ⟨⟨by decide +kernel, by decide +kernel⟩, List.mem_of_getElem? (i := 1108) (by decide +kernel), List.mem_of_getElem? (i := 1325) (by decide +kernel), List.mem_of_getElem? (i := 1326) (by decide +kernel)⟩
theorem lw_p52 : lw_okq (⟨"TraceMachinesModel", "isTrace", "(I)Z"⟩, 54) := ⟨⟨by decide +kernel, by decide +kernel⟩, List.mem_of_getElem? (i := 1108) (by decide +kernel), List.mem_of_getElem? (i := 1333) (by decide +kernel), List.mem_of_getElem? (i := 1334) (by decide +kernel)⟩
theorem lw_p53 : lw_okq (⟨"TraceMachinesModel", "change", "(III)I"⟩, 54) := ⟨⟨by decide +kernel, by decide +kernel⟩, List.mem_of_getElem? (i := 1108) (by decide +kernel), List.mem_of_getElem? (i := 1341) (by decide +kernel), List.mem_of_getElem? (i := 1342) (by decide +kernel)⟩
theorem lw_p54 : lw_okq (⟨"TraceMachinesModel", "calls", "(I)I"⟩, 54) := ⟨⟨by decide +kernel, by decide +kernel⟩, List.mem_of_getElem? (i := 1108) (by decide +kernel), List.mem_of_getElem? (i := 1357) (by decide +kernel), List.mem_of_getElem? (i := 1358) (by decide +kernel)⟩
theorem lw_p55 : lw_okq (⟨"TraceMachinesModel", "lay", "()V"⟩, 54) := ⟨⟨by decide +kernel, by decide +kernel⟩, List.mem_of_getElem? (i := 1108) (by decide +kernel), List.mem_of_getElem? (i := 1361) (by decide +kernel), List.mem_of_getElem? (i := 1362) (by decide +kernel)⟩
theorem lw_p56 : lw_okq (⟨"TraceMachinesModel", "lay", "(III)V"⟩, 54) := ⟨⟨by decide +kernel, by decide +kernel⟩, List.mem_of_getElem? (i := 1108) (by decide +kernel), List.mem_of_getElem? (i := 1365) (by decide +kernel), List.mem_of_getElem? (i := 1366) (by decide +kernel)⟩
theorem lw_p57 : lw_okq (⟨"TraceMachinesModel", "layPrefixes", "(II)V"⟩, 54) := ⟨⟨by decide +kernel, by decide +kernel⟩, List.mem_of_getElem? (i := 1108) (by decide +kernel), List.mem_of_getElem? (i := 1369) (by decide +kernel), List.mem_of_getElem? (i := 1370) (by decide +kernel)⟩
theorem lw_p58 : lw_okq (⟨"TraceMachinesModel", "newPrefix", "(I)V"⟩, 54) := ⟨⟨by decide +kernel, by decide +kernel⟩, List.mem_of_getElem? (i := 1108) (by decide +kernel), List.mem_of_getElem? (i := 1373) (by decide +kernel), List.mem_of_getElem? (i := 1374) (by decide +kernel)⟩
theorem lw_p59 : lw_okq (⟨"TraceMachinesModel", "letterAt", "(II)I"⟩, 54) := ⟨⟨by decide +kernel, by decide +kernel⟩, List.mem_of_getElem? (i := 1108) (by decide +kernel), List.mem_of_getElem? (i := 1377) (by decide +kernel), List.mem_of_getElem? (i := 1378) (by decide +kernel)⟩
theorem lw_p60 : lw_okq (⟨"TraceMachinesModel", "layStates", "(III)V"⟩, 54) := ⟨⟨by decide +kernel, by decide +kernel⟩, List.mem_of_getElem? (i := 1108) (by decide +kernel), List.mem_of_getElem? (i := 1381) (by decide +kernel), List.mem_of_getElem? (i := 1382) (by decide +kernel)⟩
theorem lw_p61 : lw_okq (⟨"TraceMachinesModel", "pathOf", "(III)I"⟩, 54) := ⟨⟨by decide +kernel, by decide +kernel⟩, List.mem_of_getElem? (i := 1108) (by decide +kernel), List.mem_of_getElem? (i := 1385) (by decide +kernel), List.mem_of_getElem? (i := 1386) (by decide +kernel)⟩
theorem lw_p62 : lw_okq (⟨"TraceMachinesModel", "rowBehind", "(III)I"⟩, 54) := ⟨⟨by decide +kernel, by decide +kernel⟩, List.mem_of_getElem? (i := 1108) (by decide +kernel), List.mem_of_getElem? (i := 1389) (by decide +kernel), List.mem_of_getElem? (i := 1390) (by decide +kernel)⟩
theorem lw_p63 : lw_okq (⟨"TraceMachinesModel", "addFollow", "(II)V"⟩, 54) := ⟨⟨by decide +kernel, by decide +kernel⟩, List.mem_of_getElem? (i := 1108) (by decide +kernel), List.mem_of_getElem? (i := 1393) (by decide +kernel), List.mem_of_getElem? (i := 1394) (by decide +kernel)⟩
def lw_privs_4 : List (MethodName × Nat) := [(⟨"TraceMachinesModel", "isDigitHere", "()Z"⟩, 54), (⟨"TraceMachinesModel", "endsReading", "()V"⟩, 54), (⟨"TraceMachinesModel", "remember", "()V"⟩, 54), (⟨"TraceMachinesModel", "many", "()I"⟩, 54), (⟨"TraceMachinesModel", "isTrace", "(I)Z"⟩, 54), (⟨"TraceMachinesModel", "change", "(III)I"⟩, 54), (⟨"TraceMachinesModel", "calls", "(I)I"⟩, 54), (⟨"TraceMachinesModel", "lay", "()V"⟩, 54), (⟨"TraceMachinesModel", "lay", "(III)V"⟩, 54), (⟨"TraceMachinesModel", "layPrefixes", "(II)V"⟩, 54), (⟨"TraceMachinesModel", "newPrefix", "(I)V"⟩, 54), (⟨"TraceMachinesModel", "letterAt", "(II)I"⟩, 54), (⟨"TraceMachinesModel", "layStates", "(III)V"⟩, 54), (⟨"TraceMachinesModel", "pathOf", "(III)I"⟩, 54), (⟨"TraceMachinesModel", "rowBehind", "(III)I"⟩, 54), (⟨"TraceMachinesModel", "addFollow", "(II)V"⟩, 54)]
theorem lw_r4 : ∀ q ∈ lw_privs_4, lw_okq q := List.forall_mem_cons.mpr ⟨lw_p48, List.forall_mem_cons.mpr ⟨lw_p49, List.forall_mem_cons.mpr ⟨lw_p50, List.forall_mem_cons.mpr ⟨lw_p51, List.forall_mem_cons.mpr ⟨lw_p52, List.forall_mem_cons.mpr ⟨lw_p53, List.forall_mem_cons.mpr ⟨lw_p54, List.forall_mem_cons.mpr ⟨lw_p55, List.forall_mem_cons.mpr ⟨lw_p56, List.forall_mem_cons.mpr ⟨lw_p57, List.forall_mem_cons.mpr ⟨lw_p58, List.forall_mem_cons.mpr ⟨lw_p59, List.forall_mem_cons.mpr ⟨lw_p60, List.forall_mem_cons.mpr ⟨lw_p61, List.forall_mem_cons.mpr ⟨lw_p62, List.forall_mem_cons.mpr ⟨lw_p63, fun _ h => absurd h List.not_mem_nil⟩⟩⟩⟩⟩⟩⟩⟩⟩⟩⟩⟩⟩⟩⟩⟩
theorem lw_p64 : lw_okq (⟨"TraceMachinesModel", "areAlike", "(II)Z"⟩, 54) := ⟨⟨by decide +kernel, by decide +kernel⟩, List.mem_of_getElem? (i := 1108) (by decide +kernel), List.mem_of_getElem? (i := 1397) (by decide +kernel), List.mem_of_getElem? (i := 1398) (by decide +kernel)⟩
theorem lw_p65 : lw_okq (⟨"TraceMachinesModel", "addEdge", "(III)V"⟩, 54) := ⟨⟨by decide +kernel, by decide +kernel⟩, List.mem_of_getElem? (i := 1108) (by decide +kernel), List.mem_of_getElem? (i := 1401) (by decide +kernel), List.mem_of_getElem? (i := 1402) (by decide +kernel)⟩
theorem lw_p66 : lw_okq (⟨"TraceMachinesModel", "stateAt", "(III)I"⟩, 54) := ⟨⟨by decide +kernel, by decide +kernel⟩, List.mem_of_getElem? (i := 1108) (by decide +kernel), List.mem_of_getElem? (i := 1405) (by decide +kernel), List.mem_of_getElem? (i := 1406) (by decide +kernel)⟩
theorem lw_p67 : lw_okq (⟨"TraceMachinesModel", "placeOf", "(IIII)I"⟩, 54) := ⟨⟨by decide +kernel, by decide +kernel⟩, List.mem_of_getElem? (i := 1108) (by decide +kernel), List.mem_of_getElem? (i := 1409) (by decide +kernel), List.mem_of_getElem? (i := 1410) (by decide +kernel)⟩
theorem lw_p68 : lw_okq (⟨"TraceMachinesModel", "edgeAt", "(III)I"⟩, 54) := ⟨⟨by decide +kernel, by decide +kernel⟩, List.mem_of_getElem? (i := 1108) (by decide +kernel), List.mem_of_getElem? (i := 1413) (by decide +kernel), List.mem_of_getElem? (i := 1414) (by decide +kernel)⟩
theorem lw_p69 : lw_okq (⟨"TraceMachinesModel", "valueAt", "(II)I"⟩, 54) := ⟨⟨by decide +kernel, by decide +kernel⟩, List.mem_of_getElem? (i := 1108) (by decide +kernel), List.mem_of_getElem? (i := 1417) (by decide +kernel), List.mem_of_getElem? (i := 1418) (by decide +kernel)⟩
theorem lw_p70 : lw_okq (⟨"TraceMachinesModel", "isFinal", "(II)Z"⟩, 54) := ⟨⟨by decide +kernel, by decide +kernel⟩, List.mem_of_getElem? (i := 1108) (by decide +kernel), List.mem_of_getElem? (i := 1425) (by decide +kernel), List.mem_of_getElem? (i := 1426) (by decide +kernel)⟩
theorem lw_p71 : lw_okq (⟨"TraceMachinesModel", "leaving", "(IZ)I"⟩, 54) := ⟨⟨by decide +kernel, by decide +kernel⟩, List.mem_of_getElem? (i := 1108) (by decide +kernel), List.mem_of_getElem? (i := 1429) (by decide +kernel), List.mem_of_getElem? (i := 1430) (by decide +kernel)⟩
theorem lw_p72 : lw_okq (⟨"TraceMachinesModel", "areTwo", "(II)Z"⟩, 54) := ⟨⟨by decide +kernel, by decide +kernel⟩, List.mem_of_getElem? (i := 1108) (by decide +kernel), List.mem_of_getElem? (i := 1442) (by decide +kernel), List.mem_of_getElem? (i := 1443) (by decide +kernel)⟩
theorem lw_p73 : lw_okq (⟨"TraceMachinesModel", "haveCommon", "(II)Z"⟩, 54) := ⟨⟨by decide +kernel, by decide +kernel⟩, List.mem_of_getElem? (i := 1108) (by decide +kernel), List.mem_of_getElem? (i := 1446) (by decide +kernel), List.mem_of_getElem? (i := 1447) (by decide +kernel)⟩
theorem lw_p74 : lw_okq (⟨"TraceMachinesModel", "runs", "(IZ)I"⟩, 54) := ⟨⟨by decide +kernel, by decide +kernel⟩, List.mem_of_getElem? (i := 1108) (by decide +kernel), List.mem_of_getElem? (i := 1454) (by decide +kernel), List.mem_of_getElem? (i := 1455) (by decide +kernel)⟩
theorem lw_p75 : lw_okq (⟨"TraceMachinesModel", "start", "(I)V"⟩, 54) := ⟨⟨by decide +kernel, by decide +kernel⟩, List.mem_of_getElem? (i := 1108) (by decide +kernel), List.mem_of_getElem? (i := 1458) (by decide +kernel), List.mem_of_getElem? (i := 1459) (by decide +kernel)⟩
theorem lw_p76 : lw_okq (⟨"TraceMachinesModel", "step", "(I[JIIIZ)V"⟩, 54) := ⟨⟨by decide +kernel, by decide +kernel⟩, List.mem_of_getElem? (i := 1108) (by decide +kernel), List.mem_of_getElem? (i := 1465) (by decide +kernel), List.mem_of_getElem? (i := 1466) (by decide +kernel)⟩
theorem lw_p77 : lw_okq (⟨"TraceMachinesModel", "takes", "(I[JI)Z"⟩, 54) := ⟨⟨by decide +kernel, by decide +kernel⟩, List.mem_of_getElem? (i := 1108) (by decide +kernel), List.mem_of_getElem? (i := 1472) (by decide +kernel), List.mem_of_getElem? (i := 1473) (by decide +kernel)⟩
theorem lw_p78 : lw_okq (⟨"TraceMachinesModel", "layGoes", "()V"⟩, 54) := ⟨⟨by decide +kernel, by decide +kernel⟩, List.mem_of_getElem? (i := 1108) (by decide +kernel), List.mem_of_getElem? (i := 1484) (by decide +kernel), List.mem_of_getElem? (i := 1485) (by decide +kernel)⟩
theorem lw_p79 : lw_okq (⟨"TraceMachinesModel", "coversAll", "(I)Z"⟩, 54) := ⟨⟨by decide +kernel, by decide +kernel⟩, List.mem_of_getElem? (i := 1108) (by decide +kernel), List.mem_of_getElem? (i := 1491) (by decide +kernel), List.mem_of_getElem? (i := 1492) (by decide +kernel)⟩
def lw_privs_5 : List (MethodName × Nat) := [(⟨"TraceMachinesModel", "areAlike", "(II)Z"⟩, 54), (⟨"TraceMachinesModel", "addEdge", "(III)V"⟩, 54), (⟨"TraceMachinesModel", "stateAt", "(III)I"⟩, 54), (⟨"TraceMachinesModel", "placeOf", "(IIII)I"⟩, 54), (⟨"TraceMachinesModel", "edgeAt", "(III)I"⟩, 54), (⟨"TraceMachinesModel", "valueAt", "(II)I"⟩, 54), (⟨"TraceMachinesModel", "isFinal", "(II)Z"⟩, 54), (⟨"TraceMachinesModel", "leaving", "(IZ)I"⟩, 54), (⟨"TraceMachinesModel", "areTwo", "(II)Z"⟩, 54), (⟨"TraceMachinesModel", "haveCommon", "(II)Z"⟩, 54), (⟨"TraceMachinesModel", "runs", "(IZ)I"⟩, 54), (⟨"TraceMachinesModel", "start", "(I)V"⟩, 54), (⟨"TraceMachinesModel", "step", "(I[JIIIZ)V"⟩, 54), (⟨"TraceMachinesModel", "takes", "(I[JI)Z"⟩, 54), (⟨"TraceMachinesModel", "layGoes", "()V"⟩, 54), (⟨"TraceMachinesModel", "coversAll", "(I)Z"⟩, 54)]
theorem lw_r5 : ∀ q ∈ lw_privs_5, lw_okq q := List.forall_mem_cons.mpr ⟨lw_p64, List.forall_mem_cons.mpr ⟨lw_p65, List.forall_mem_cons.mpr ⟨lw_p66, List.forall_mem_cons.mpr ⟨lw_p67, List.forall_mem_cons.mpr ⟨lw_p68, List.forall_mem_cons.mpr ⟨lw_p69, List.forall_mem_cons.mpr ⟨lw_p70, List.forall_mem_cons.mpr ⟨lw_p71, List.forall_mem_cons.mpr ⟨lw_p72, List.forall_mem_cons.mpr ⟨lw_p73, List.forall_mem_cons.mpr ⟨lw_p74, List.forall_mem_cons.mpr ⟨lw_p75, List.forall_mem_cons.mpr ⟨lw_p76, List.forall_mem_cons.mpr ⟨lw_p77, List.forall_mem_cons.mpr ⟨lw_p78, List.forall_mem_cons.mpr ⟨lw_p79, fun _ h => absurd h List.not_mem_nil⟩⟩⟩⟩⟩⟩⟩⟩⟩⟩⟩⟩⟩⟩⟩⟩
theorem lw_p80 : lw_okq (⟨"TraceMachinesModel", "stepWays", "(I)V"⟩, 54) := ⟨⟨by decide +kernel, by decide +kernel⟩, List.mem_of_getElem? (i := 1108) (by decide +kernel), List.mem_of_getElem? (i := 1499) (by decide +kernel), List.mem_of_getElem? (i := 1500) (by decide +kernel)⟩
theorem lw_p81 : lw_okq (⟨"TraceMachinesModel", "nextLevel", "()V"⟩, 54) := ⟨⟨by decide +kernel, by decide +kernel⟩, List.mem_of_getElem? (i := 1108) (by decide +kernel), List.mem_of_getElem? (i := 1510) (by decide +kernel), List.mem_of_getElem? (i := 1511) (by decide +kernel)⟩
theorem lw_p82 : lw_okq (⟨"TraceMachinesModel", "addNext", "(I)V"⟩, 54) := ⟨⟨by decide +kernel, by decide +kernel⟩, List.mem_of_getElem? (i := 1108) (by decide +kernel), List.mem_of_getElem? (i := 1514) (by decide +kernel), List.mem_of_getElem? (i := 1515) (by decide +kernel)⟩
theorem lw_p83 : lw_okq (⟨"TraceMachinesModel", "partsAt", "()I"⟩, 54) := ⟨⟨by decide +kernel, by decide +kernel⟩, List.mem_of_getElem? (i := 1108) (by decide +kernel), List.mem_of_getElem? (i := 1526) (by decide +kernel), List.mem_of_getElem? (i := 1527) (by decide +kernel)⟩
theorem lw_p84 : lw_okq (⟨"TraceMachinesModel", "addTwo", "(II)V"⟩, 54) := ⟨⟨by decide +kernel, by decide +kernel⟩, List.mem_of_getElem? (i := 1108) (by decide +kernel), List.mem_of_getElem? (i := 1530) (by decide +kernel), List.mem_of_getElem? (i := 1531) (by decide +kernel)⟩
theorem lw_p85 : lw_okq (⟨"TraceMachinesModel", "stepTwo", "(II)V"⟩, 54) := ⟨⟨by decide +kernel, by decide +kernel⟩, List.mem_of_getElem? (i := 1108) (by decide +kernel), List.mem_of_getElem? (i := 1534) (by decide +kernel), List.mem_of_getElem? (i := 1535) (by decide +kernel)⟩
theorem lw_p86 : lw_okq (⟨"TraceMachinesModel", "isKnown", "()Z"⟩, 54) := ⟨⟨by decide +kernel, by decide +kernel⟩, List.mem_of_getElem? (i := 1108) (by decide +kernel), List.mem_of_getElem? (i := 1538) (by decide +kernel), List.mem_of_getElem? (i := 1539) (by decide +kernel)⟩
theorem lw_p87 : lw_okq (⟨"TraceMachinesModel", "asked", "(IIIZ)I"⟩, 54) := ⟨⟨by decide +kernel, by decide +kernel⟩, List.mem_of_getElem? (i := 1108) (by decide +kernel), List.mem_of_getElem? (i := 1558) (by decide +kernel), List.mem_of_getElem? (i := 1559) (by decide +kernel)⟩
theorem lw_p88 : lw_okq (⟨"TraceMachinesModel", "isAsked", "(IIII)Z"⟩, 54) := ⟨⟨by decide +kernel, by decide +kernel⟩, List.mem_of_getElem? (i := 1108) (by decide +kernel), List.mem_of_getElem? (i := 1562) (by decide +kernel), List.mem_of_getElem? (i := 1563) (by decide +kernel)⟩
theorem lw_p89 : lw_okq (⟨"TraceMachinesModel", "hasLetter", "(II)Z"⟩, 54) := ⟨⟨by decide +kernel, by decide +kernel⟩, List.mem_of_getElem? (i := 1108) (by decide +kernel), List.mem_of_getElem? (i := 1566) (by decide +kernel), List.mem_of_getElem? (i := 1567) (by decide +kernel)⟩
theorem lw_p90 : lw_okq (⟨"TraceMachinesModel", "isSo", "(IIII)Z"⟩, 54) := ⟨⟨by decide +kernel, by decide +kernel⟩, List.mem_of_getElem? (i := 1108) (by decide +kernel), List.mem_of_getElem? (i := 1570) (by decide +kernel), List.mem_of_getElem? (i := 1571) (by decide +kernel)⟩
theorem lw_p91 : lw_okq (⟨"TraceMachinesModel", "lastOf", "(II)I"⟩, 54) := ⟨⟨by decide +kernel, by decide +kernel⟩, List.mem_of_getElem? (i := 1108) (by decide +kernel), List.mem_of_getElem? (i := 1574) (by decide +kernel), List.mem_of_getElem? (i := 1575) (by decide +kernel)⟩
theorem lw_p92 : lw_okq (⟨"TraceMachinesModel", "firstOf", "(II)I"⟩, 54) := ⟨⟨by decide +kernel, by decide +kernel⟩, List.mem_of_getElem? (i := 1108) (by decide +kernel), List.mem_of_getElem? (i := 1578) (by decide +kernel), List.mem_of_getElem? (i := 1579) (by decide +kernel)⟩
theorem lw_p93 : lw_okq (⟨"TraceMachinesModel", "rightBehind", "(III)Z"⟩, 54) := ⟨⟨by decide +kernel, by decide +kernel⟩, List.mem_of_getElem? (i := 1108) (by decide +kernel), List.mem_of_getElem? (i := 1582) (by decide +kernel), List.mem_of_getElem? (i := 1583) (by decide +kernel)⟩
theorem lw_p94 : lw_okq (⟨"TraceMachinesModel", "howOften", "(II)I"⟩, 54) := ⟨⟨by decide +kernel, by decide +kernel⟩, List.mem_of_getElem? (i := 1108) (by decide +kernel), List.mem_of_getElem? (i := 1586) (by decide +kernel), List.mem_of_getElem? (i := 1587) (by decide +kernel)⟩
theorem lw_p95 : lw_okq (⟨"TraceMachinesModel", "inTurn", "(III)Z"⟩, 54) := ⟨⟨by decide +kernel, by decide +kernel⟩, List.mem_of_getElem? (i := 1108) (by decide +kernel), List.mem_of_getElem? (i := 1590) (by decide +kernel), List.mem_of_getElem? (i := 1591) (by decide +kernel)⟩
def lw_privs_6 : List (MethodName × Nat) := [(⟨"TraceMachinesModel", "stepWays", "(I)V"⟩, 54), (⟨"TraceMachinesModel", "nextLevel", "()V"⟩, 54), (⟨"TraceMachinesModel", "addNext", "(I)V"⟩, 54), (⟨"TraceMachinesModel", "partsAt", "()I"⟩, 54), (⟨"TraceMachinesModel", "addTwo", "(II)V"⟩, 54), (⟨"TraceMachinesModel", "stepTwo", "(II)V"⟩, 54), (⟨"TraceMachinesModel", "isKnown", "()Z"⟩, 54), (⟨"TraceMachinesModel", "asked", "(IIIZ)I"⟩, 54), (⟨"TraceMachinesModel", "isAsked", "(IIII)Z"⟩, 54), (⟨"TraceMachinesModel", "hasLetter", "(II)Z"⟩, 54), (⟨"TraceMachinesModel", "isSo", "(IIII)Z"⟩, 54), (⟨"TraceMachinesModel", "lastOf", "(II)I"⟩, 54), (⟨"TraceMachinesModel", "firstOf", "(II)I"⟩, 54), (⟨"TraceMachinesModel", "rightBehind", "(III)Z"⟩, 54), (⟨"TraceMachinesModel", "howOften", "(II)I"⟩, 54), (⟨"TraceMachinesModel", "inTurn", "(III)Z"⟩, 54)]
theorem lw_r6 : ∀ q ∈ lw_privs_6, lw_okq q := List.forall_mem_cons.mpr ⟨lw_p80, List.forall_mem_cons.mpr ⟨lw_p81, List.forall_mem_cons.mpr ⟨lw_p82, List.forall_mem_cons.mpr ⟨lw_p83, List.forall_mem_cons.mpr ⟨lw_p84, List.forall_mem_cons.mpr ⟨lw_p85, List.forall_mem_cons.mpr ⟨lw_p86, List.forall_mem_cons.mpr ⟨lw_p87, List.forall_mem_cons.mpr ⟨lw_p88, List.forall_mem_cons.mpr ⟨lw_p89, List.forall_mem_cons.mpr ⟨lw_p90, List.forall_mem_cons.mpr ⟨lw_p91, List.forall_mem_cons.mpr ⟨lw_p92, List.forall_mem_cons.mpr ⟨lw_p93, List.forall_mem_cons.mpr ⟨lw_p94, List.forall_mem_cons.mpr ⟨lw_p95, fun _ h => absurd h List.not_mem_nil⟩⟩⟩⟩⟩⟩⟩⟩⟩⟩⟩⟩⟩⟩⟩⟩
theorem lw_p96 : lw_okq (⟨"TraceMachinesModel", "layWeak", "()V"⟩, 54) := ⟨⟨by decide +kernel, by decide +kernel⟩, List.mem_of_getElem? (i := 1108) (by decide +kernel), List.mem_of_getElem? (i := 1604) (by decide +kernel), List.mem_of_getElem? (i := 1605) (by decide +kernel)⟩
theorem lw_p97 : lw_okq (⟨"TraceMachinesModel", "placeAmong", "(I)I"⟩, 54) := ⟨⟨by decide +kernel, by decide +kernel⟩, List.mem_of_getElem? (i := 1108) (by decide +kernel), List.mem_of_getElem? (i := 1608) (by decide +kernel), List.mem_of_getElem? (i := 1609) (by decide +kernel)⟩
theorem lw_p98 : lw_okq (⟨"TraceMachinesModel", "isAhead", "(II)Z"⟩, 54) := ⟨⟨by decide +kernel, by decide +kernel⟩, List.mem_of_getElem? (i := 1108) (by decide +kernel), List.mem_of_getElem? (i := 1612) (by decide +kernel), List.mem_of_getElem? (i := 1613) (by decide +kernel)⟩
theorem lw_p99 : lw_okq (⟨"TraceMachinesModel", "isTakenBy", "(IIZ)Z"⟩, 54) := ⟨⟨by decide +kernel, by decide +kernel⟩, List.mem_of_getElem? (i := 1108) (by decide +kernel), List.mem_of_getElem? (i := 1624) (by decide +kernel), List.mem_of_getElem? (i := 1625) (by decide +kernel)⟩
theorem lw_p100 : lw_okq (⟨"TraceMachinesModel", "takeTrace", "(I)V"⟩, 54) := ⟨⟨by decide +kernel, by decide +kernel⟩, List.mem_of_getElem? (i := 1108) (by decide +kernel), List.mem_of_getElem? (i := 1628) (by decide +kernel), List.mem_of_getElem? (i := 1629) (by decide +kernel)⟩
theorem lw_p101 : lw_okq (⟨"TraceMachinesModel", "fitBy", "(II)I"⟩, 54) := ⟨⟨by decide +kernel, by decide +kernel⟩, List.mem_of_getElem? (i := 1108) (by decide +kernel), List.mem_of_getElem? (i := 1636) (by decide +kernel), List.mem_of_getElem? (i := 1637) (by decide +kernel)⟩
theorem lw_p102 : lw_okq (⟨"TraceMachinesModel", "callsOfAll", "()I"⟩, 54) := ⟨⟨by decide +kernel, by decide +kernel⟩, List.mem_of_getElem? (i := 1108) (by decide +kernel), List.mem_of_getElem? (i := 1656) (by decide +kernel), List.mem_of_getElem? (i := 1657) (by decide +kernel)⟩
theorem lw_p103 : lw_okq (⟨"TraceMachinesModel", "finals", "()I"⟩, 54) := ⟨⟨by decide +kernel, by decide +kernel⟩, List.mem_of_getElem? (i := 1108) (by decide +kernel), List.mem_of_getElem? (i := 1660) (by decide +kernel), List.mem_of_getElem? (i := 1661) (by decide +kernel)⟩
def lw_privs_7 : List (MethodName × Nat) := [(⟨"TraceMachinesModel", "layWeak", "()V"⟩, 54), (⟨"TraceMachinesModel", "placeAmong", "(I)I"⟩, 54), (⟨"TraceMachinesModel", "isAhead", "(II)Z"⟩, 54), (⟨"TraceMachinesModel", "isTakenBy", "(IIZ)Z"⟩, 54), (⟨"TraceMachinesModel", "takeTrace", "(I)V"⟩, 54), (⟨"TraceMachinesModel", "fitBy", "(II)I"⟩, 54), (⟨"TraceMachinesModel", "callsOfAll", "()I"⟩, 54), (⟨"TraceMachinesModel", "finals", "()I"⟩, 54)]
theorem lw_r7 : ∀ q ∈ lw_privs_7, lw_okq q := List.forall_mem_cons.mpr ⟨lw_p96, List.forall_mem_cons.mpr ⟨lw_p97, List.forall_mem_cons.mpr ⟨lw_p98, List.forall_mem_cons.mpr ⟨lw_p99, List.forall_mem_cons.mpr ⟨lw_p100, List.forall_mem_cons.mpr ⟨lw_p101, List.forall_mem_cons.mpr ⟨lw_p102, List.forall_mem_cons.mpr ⟨lw_p103, fun _ h => absurd h List.not_mem_nil⟩⟩⟩⟩⟩⟩⟩⟩
def lw_privs : List (MethodName × Nat) := lw_privs_1 ++ (lw_privs_2 ++ (lw_privs_3 ++ (lw_privs_4 ++ (lw_privs_5 ++ (lw_privs_6 ++ (lw_privs_7))))))
def lw_tbl : List Cond := k2_sels lw_privs ++ tables_1
theorem lw_privs_ok : ∀ q ∈ lw_privs, lw_okq q := by
  show ∀ q ∈ lw_privs_1 ++ (lw_privs_2 ++ (lw_privs_3 ++ (lw_privs_4 ++ (lw_privs_5 ++ (lw_privs_6 ++ (lw_privs_7)))))), lw_okq q
  exact List.forall_mem_append.mpr ⟨lw_r1, List.forall_mem_append.mpr ⟨lw_r2, List.forall_mem_append.mpr ⟨lw_r3, List.forall_mem_append.mpr ⟨lw_r4, List.forall_mem_append.mpr ⟨lw_r5, List.forall_mem_append.mpr ⟨lw_r6, lw_r7⟩⟩⟩⟩⟩⟩
end
section
/-- the words that every method here is given: those of the tables that stay -/
def zW : List Cond := lw_tbl.filter goodWord
theorem zW_t {w : Cond} (h : w ∈ tables_1) (g : goodWord w = true) : w ∈ zW := List.mem_filter.mpr ⟨List.mem_append_right _ h, g⟩
theorem zW_s {w : Cond} (h : w ∈ k2_sels lw_privs) (g : goodWord w = true) : w ∈ zW := List.mem_filter.mpr ⟨List.mem_append_left _ h, g⟩
theorem zW_good (ws : List Cond) (h : ∀ w ∈ ws, w ∈ zW) : GoodIn zW ws := fun w hw => ⟨h w hw, good_of_word (List.mem_filter.mp (h w hw)).2⟩
theorem q0 : (Jvm.Cond.initialized "TraceMachinesLaw") ∈ zW := zW_t (List.mem_of_getElem? (i := 0) (by decide +kernel)) rfl
theorem q1 : (Jvm.Cond.initialized "TraceMachines") ∈ zW := zW_t (List.mem_of_getElem? (i := 1) (by decide +kernel)) rfl
theorem q2 : (Jvm.Cond.initialized "TraceMachines$Text") ∈ zW := zW_t (List.mem_of_getElem? (i := 2) (by decide +kernel)) rfl
theorem q3 : (Jvm.Cond.initialized "TraceMachines$Traces") ∈ zW := zW_t (List.mem_of_getElem? (i := 3) (by decide +kernel)) rfl
theorem q4 : (Jvm.Cond.initialized "TraceMachines$Tree") ∈ zW := zW_t (List.mem_of_getElem? (i := 4) (by decide +kernel)) rfl
theorem q5 : (Jvm.Cond.initialized "TraceMachines$Follows") ∈ zW := zW_t (List.mem_of_getElem? (i := 5) (by decide +kernel)) rfl
theorem q6 : (Jvm.Cond.initialized "TraceMachines$Machine") ∈ zW := zW_t (List.mem_of_getElem? (i := 6) (by decide +kernel)) rfl
theorem q7 : (Jvm.Cond.initialized "TraceMachines$StateSets") ∈ zW := zW_t (List.mem_of_getElem? (i := 7) (by decide +kernel)) rfl
theorem q8 : (Jvm.Cond.initialized "TraceMachines$Words") ∈ zW := zW_t (List.mem_of_getElem? (i := 8) (by decide +kernel)) rfl
theorem q9 : (Jvm.Cond.initialized "TraceMachines$Parting") ∈ zW := zW_t (List.mem_of_getElem? (i := 9) (by decide +kernel)) rfl
theorem q10 : (Jvm.Cond.initialized "TraceMachines$Cover") ∈ zW := zW_t (List.mem_of_getElem? (i := 10) (by decide +kernel)) rfl
theorem q11 : (Jvm.Cond.initialized "TraceMachines$Pair") ∈ zW := zW_t (List.mem_of_getElem? (i := 11) (by decide +kernel)) rfl
theorem q12 : (Jvm.Cond.initialized "TraceMachines$Odds") ∈ zW := zW_t (List.mem_of_getElem? (i := 12) (by decide +kernel)) rfl
theorem q13 : (Jvm.Cond.initialized "java/util/Arrays") ∈ zW := zW_t (List.mem_of_getElem? (i := 13) (by decide +kernel)) rfl
theorem q14 : (Jvm.Cond.initialized "TraceMachinesModel") ∈ zW := zW_t (List.mem_of_getElem? (i := 14) (by decide +kernel)) rfl
theorem q15 : (Jvm.Cond.initialized "java/lang/System") ∈ zW := zW_t (List.mem_of_getElem? (i := 15) (by decide +kernel)) rfl
theorem q16 : (Jvm.Cond.initialized "java/lang/Throwable") ∈ zW := zW_t (List.mem_of_getElem? (i := 16) (by decide +kernel)) rfl
theorem q17 : (Jvm.Cond.initialized "java/lang/Exception") ∈ zW := zW_t (List.mem_of_getElem? (i := 17) (by decide +kernel)) rfl
theorem q18 : (Jvm.Cond.initialized "java/lang/RuntimeException") ∈ zW := zW_t (List.mem_of_getElem? (i := 18) (by decide +kernel)) rfl
theorem q19 : (Jvm.Cond.initialized "java/util/NoSuchElementException") ∈ zW := zW_t (List.mem_of_getElem? (i := 19) (by decide +kernel)) rfl
theorem q20 : (Jvm.Cond.initialized "java/lang/Math") ∈ zW := zW_t (List.mem_of_getElem? (i := 20) (by decide +kernel)) rfl
theorem q21 : (Jvm.Cond.initialized "java/lang/Long") ∈ zW := zW_t (List.mem_of_getElem? (i := 21) (by decide +kernel)) rfl
theorem q22 : (Jvm.Cond.initialized "java/lang/Integer") ∈ zW := zW_t (List.mem_of_getElem? (i := 22) (by decide +kernel)) rfl
theorem q23 : (Jvm.Cond.classLink "TraceMachinesLaw" (8 : Nat) "TraceMachines") ∈ zW := zW_t (List.mem_of_getElem? (i := 23) (by decide +kernel)) rfl
theorem q24 : (Jvm.Cond.instantiable "TraceMachines" (20 : Nat)) ∈ zW := zW_t (List.mem_of_getElem? (i := 24) (by decide +kernel)) rfl
theorem q25 : (Jvm.Cond.methodLink "TraceMachinesLaw" (15 : Nat) ({ cls := "TraceMachines", name := "<init>", desc := "()V" } : Jvm.MethodName)) ∈ zW := zW_t (List.mem_of_getElem? (i := 25) (by decide +kernel)) rfl
theorem q26 : (Jvm.Cond.instanceMethod ({ cls := "TraceMachines", name := "<init>", desc := "()V" } : Jvm.MethodName)) ∈ zW := zW_t (List.mem_of_getElem? (i := 26) (by decide +kernel)) rfl
theorem q27 : (Jvm.Cond.code ({ cls := "TraceMachines", name := "<init>", desc := "()V" } : Jvm.MethodName) prog_1_method_1_code (2 : Nat) (Option.none : Option Jvm.ClassFile.FieldType)) ∈ zW := zW_t (List.mem_of_getElem? (i := 27) (by decide +kernel)) rfl
theorem q28 : (Jvm.Cond.methodLink "TraceMachines" (3 : Nat) ({ cls := "java/lang/Object", name := "<init>", desc := "()V" } : Jvm.MethodName)) ∈ zW := zW_t (List.mem_of_getElem? (i := 28) (by decide +kernel)) rfl
theorem q29 : (Jvm.Cond.instanceMethod ({ cls := "java/lang/Object", name := "<init>", desc := "()V" } : Jvm.MethodName)) ∈ zW := zW_t (List.mem_of_getElem? (i := 29) (by decide +kernel)) rfl
theorem q30 : (Jvm.Cond.code ({ cls := "java/lang/Object", name := "<init>", desc := "()V" } : Jvm.MethodName) object_method_1_code (1 : Nat) (Option.none : Option Jvm.ClassFile.FieldType)) ∈ zW := zW_t (List.mem_of_getElem? (i := 30) (by decide +kernel)) rfl
theorem q31 : (Jvm.Cond.classLink "TraceMachines" (9 : Nat) "TraceMachines$Text") ∈ zW := zW_t (List.mem_of_getElem? (i := 31) (by decide +kernel)) rfl
theorem q32 : (Jvm.Cond.instantiable "TraceMachines$Text" (2 : Nat)) ∈ zW := zW_t (List.mem_of_getElem? (i := 32) (by decide +kernel)) rfl
theorem q34 : (Jvm.Cond.instanceMethod ({ cls := "TraceMachines$Text", name := "<init>", desc := "()V" } : Jvm.MethodName)) ∈ zW := zW_t (List.mem_of_getElem? (i := 34) (by decide +kernel)) rfl
theorem q35 : (Jvm.Cond.code ({ cls := "TraceMachines$Text", name := "<init>", desc := "()V" } : Jvm.MethodName) prog_9_method_1_code (1 : Nat) (Option.none : Option Jvm.ClassFile.FieldType)) ∈ zW := zW_t (List.mem_of_getElem? (i := 35) (by decide +kernel)) rfl
theorem q36 : (Jvm.Cond.methodLink "TraceMachines$Text" (3 : Nat) ({ cls := "java/lang/Object", name := "<init>", desc := "()V" } : Jvm.MethodName)) ∈ zW := zW_t (List.mem_of_getElem? (i := 36) (by decide +kernel)) rfl
theorem q37 : (Jvm.Cond.fieldLink "TraceMachines$Text" (15 : Nat) "TraceMachines$Text" "length" "I") ∈ zW := zW_t (List.mem_of_getElem? (i := 37) (by decide +kernel)) rfl
theorem q38 : (Jvm.Cond.fieldLink "TraceMachines" (122 : Nat) "TraceMachines$Text" "length" "I") ∈ zW := zW_t (List.mem_of_getElem? (i := 38) (by decide +kernel)) rfl
theorem q39 : (Jvm.Cond.fieldLink "TraceMachines$Text" (9 : Nat) "TraceMachines$Text" "signs" "[C") ∈ zW := zW_t (List.mem_of_getElem? (i := 39) (by decide +kernel)) rfl
theorem q40 : (Jvm.Cond.lays "TraceMachines$Text" "TraceMachines$Text" "length" "I") ∈ zW := zW_t (List.mem_of_getElem? (i := 40) (by decide +kernel)) rfl
theorem q42 : (Jvm.Cond.laysFinal "TraceMachines$Text" "TraceMachines$Text" "signs" "[C") ∈ zW := zW_t (List.mem_of_getElem? (i := 42) (by decide +kernel)) rfl
theorem q45 : (Jvm.Cond.arrayClass Jvm.ClassFile.FieldType.char) ∈ zW := zW_t (List.mem_of_getElem? (i := 45) (by decide +kernel)) rfl
theorem q46 : (Jvm.Cond.classLink "TraceMachines" (16 : Nat) "TraceMachines$Traces") ∈ zW := zW_t (List.mem_of_getElem? (i := 46) (by decide +kernel)) rfl
theorem q47 : (Jvm.Cond.instantiable "TraceMachines$Traces" (6 : Nat)) ∈ zW := zW_t (List.mem_of_getElem? (i := 47) (by decide +kernel)) rfl
theorem q49 : (Jvm.Cond.instanceMethod ({ cls := "TraceMachines$Traces", name := "<init>", desc := "()V" } : Jvm.MethodName)) ∈ zW := zW_t (List.mem_of_getElem? (i := 49) (by decide +kernel)) rfl
theorem q50 : (Jvm.Cond.code ({ cls := "TraceMachines$Traces", name := "<init>", desc := "()V" } : Jvm.MethodName) prog_10_method_1_code (1 : Nat) (Option.none : Option Jvm.ClassFile.FieldType)) ∈ zW := zW_t (List.mem_of_getElem? (i := 50) (by decide +kernel)) rfl
theorem q51 : (Jvm.Cond.methodLink "TraceMachines$Traces" (3 : Nat) ({ cls := "java/lang/Object", name := "<init>", desc := "()V" } : Jvm.MethodName)) ∈ zW := zW_t (List.mem_of_getElem? (i := 51) (by decide +kernel)) rfl
theorem q52 : (Jvm.Cond.fieldLink "TraceMachines$Traces" (25 : Nat) "TraceMachines$Traces" "count" "I") ∈ zW := zW_t (List.mem_of_getElem? (i := 52) (by decide +kernel)) rfl
theorem q53 : (Jvm.Cond.fieldLink "TraceMachines$Odds" (18 : Nat) "TraceMachines$Traces" "count" "I") ∈ zW := zW_t (List.mem_of_getElem? (i := 53) (by decide +kernel)) rfl
theorem q54 : (Jvm.Cond.fieldLink "TraceMachines$Cover" (26 : Nat) "TraceMachines$Traces" "count" "I") ∈ zW := zW_t (List.mem_of_getElem? (i := 54) (by decide +kernel)) rfl
theorem q55 : (Jvm.Cond.fieldLink "TraceMachines$Follows" (33 : Nat) "TraceMachines$Traces" "count" "I") ∈ zW := zW_t (List.mem_of_getElem? (i := 55) (by decide +kernel)) rfl
theorem q56 : (Jvm.Cond.fieldLink "TraceMachines$Pair" (22 : Nat) "TraceMachines$Traces" "count" "I") ∈ zW := zW_t (List.mem_of_getElem? (i := 56) (by decide +kernel)) rfl
theorem q57 : (Jvm.Cond.fieldLink "TraceMachines$Tree" (47 : Nat) "TraceMachines$Traces" "count" "I") ∈ zW := zW_t (List.mem_of_getElem? (i := 57) (by decide +kernel)) rfl
theorem q58 : (Jvm.Cond.fieldLink "TraceMachines" (143 : Nat) "TraceMachines$Traces" "count" "I") ∈ zW := zW_t (List.mem_of_getElem? (i := 58) (by decide +kernel)) rfl
theorem q59 : (Jvm.Cond.fieldLink "TraceMachines$Traces" (9 : Nat) "TraceMachines$Traces" "depth" "I") ∈ zW := zW_t (List.mem_of_getElem? (i := 59) (by decide +kernel)) rfl
theorem q60 : (Jvm.Cond.fieldLink "TraceMachines" (156 : Nat) "TraceMachines$Traces" "depth" "I") ∈ zW := zW_t (List.mem_of_getElem? (i := 60) (by decide +kernel)) rfl
theorem q61 : (Jvm.Cond.fieldLink "TraceMachines$Traces" (28 : Nat) "TraceMachines$Traces" "margin" "I") ∈ zW := zW_t (List.mem_of_getElem? (i := 61) (by decide +kernel)) rfl
theorem q62 : (Jvm.Cond.fieldLink "TraceMachines" (159 : Nat) "TraceMachines$Traces" "margin" "I") ∈ zW := zW_t (List.mem_of_getElem? (i := 62) (by decide +kernel)) rfl
theorem q63 : (Jvm.Cond.fieldLink "TraceMachines$Traces" (15 : Nat) "TraceMachines$Traces" "lengths" "[I") ∈ zW := zW_t (List.mem_of_getElem? (i := 63) (by decide +kernel)) rfl
theorem q64 : (Jvm.Cond.fieldLink "TraceMachines$Odds" (25 : Nat) "TraceMachines$Traces" "lengths" "[I") ∈ zW := zW_t (List.mem_of_getElem? (i := 64) (by decide +kernel)) rfl
theorem q65 : (Jvm.Cond.fieldLink "TraceMachines$Follows" (41 : Nat) "TraceMachines$Traces" "lengths" "[I") ∈ zW := zW_t (List.mem_of_getElem? (i := 65) (by decide +kernel)) rfl
theorem q66 : (Jvm.Cond.fieldLink "TraceMachines$Cover" (54 : Nat) "TraceMachines$Traces" "lengths" "[I") ∈ zW := zW_t (List.mem_of_getElem? (i := 66) (by decide +kernel)) rfl
theorem q67 : (Jvm.Cond.fieldLink "TraceMachines$Pair" (40 : Nat) "TraceMachines$Traces" "lengths" "[I") ∈ zW := zW_t (List.mem_of_getElem? (i := 67) (by decide +kernel)) rfl
theorem q68 : (Jvm.Cond.fieldLink "TraceMachines$Tree" (60 : Nat) "TraceMachines$Traces" "lengths" "[I") ∈ zW := zW_t (List.mem_of_getElem? (i := 68) (by decide +kernel)) rfl
theorem q69 : (Jvm.Cond.fieldLink "TraceMachines$Words" (94 : Nat) "TraceMachines$Traces" "lengths" "[I") ∈ zW := zW_t (List.mem_of_getElem? (i := 69) (by decide +kernel)) rfl
theorem q70 : (Jvm.Cond.fieldLink "TraceMachines" (175 : Nat) "TraceMachines$Traces" "lengths" "[I") ∈ zW := zW_t (List.mem_of_getElem? (i := 70) (by decide +kernel)) rfl
theorem q71 : (Jvm.Cond.fieldLink "TraceMachines$Machine" (143 : Nat) "TraceMachines$Traces" "lengths" "[I") ∈ zW := zW_t (List.mem_of_getElem? (i := 71) (by decide +kernel)) rfl
theorem q72 : (Jvm.Cond.fieldLink "TraceMachines$Traces" (19 : Nat) "TraceMachines$Traces" "letters" "[I") ∈ zW := zW_t (List.mem_of_getElem? (i := 72) (by decide +kernel)) rfl
theorem q73 : (Jvm.Cond.fieldLink "TraceMachines$Traces" (22 : Nat) "TraceMachines$Traces" "values" "[I") ∈ zW := zW_t (List.mem_of_getElem? (i := 73) (by decide +kernel)) rfl
theorem q74 : (Jvm.Cond.lays "TraceMachines$Traces" "TraceMachines$Traces" "count" "I") ∈ zW := zW_t (List.mem_of_getElem? (i := 74) (by decide +kernel)) rfl
theorem q76 : (Jvm.Cond.lays "TraceMachines$Traces" "TraceMachines$Traces" "depth" "I") ∈ zW := zW_t (List.mem_of_getElem? (i := 76) (by decide +kernel)) rfl
theorem q78 : (Jvm.Cond.lays "TraceMachines$Traces" "TraceMachines$Traces" "margin" "I") ∈ zW := zW_t (List.mem_of_getElem? (i := 78) (by decide +kernel)) rfl
theorem q80 : (Jvm.Cond.laysFinal "TraceMachines$Traces" "TraceMachines$Traces" "lengths" "[I") ∈ zW := zW_t (List.mem_of_getElem? (i := 80) (by decide +kernel)) rfl
theorem q82 : (Jvm.Cond.laysFinal "TraceMachines$Traces" "TraceMachines$Traces" "letters" "[I") ∈ zW := zW_t (List.mem_of_getElem? (i := 82) (by decide +kernel)) rfl
theorem q84 : (Jvm.Cond.laysFinal "TraceMachines$Traces" "TraceMachines$Traces" "values" "[I") ∈ zW := zW_t (List.mem_of_getElem? (i := 84) (by decide +kernel)) rfl
theorem q87 : (Jvm.Cond.arrayClass Jvm.ClassFile.FieldType.int) ∈ zW := zW_t (List.mem_of_getElem? (i := 87) (by decide +kernel)) rfl
theorem q89 : (Jvm.Cond.classLink "TraceMachines" (33 : Nat) "TraceMachines$Tree") ∈ zW := zW_t (List.mem_of_getElem? (i := 89) (by decide +kernel)) rfl
theorem q90 : (Jvm.Cond.instantiable "TraceMachines$Tree" (11 : Nat)) ∈ zW := zW_t (List.mem_of_getElem? (i := 90) (by decide +kernel)) rfl
theorem q92 : (Jvm.Cond.instanceMethod ({ cls := "TraceMachines$Tree", name := "<init>", desc := "()V" } : Jvm.MethodName)) ∈ zW := zW_t (List.mem_of_getElem? (i := 92) (by decide +kernel)) rfl
theorem q93 : (Jvm.Cond.code ({ cls := "TraceMachines$Tree", name := "<init>", desc := "()V" } : Jvm.MethodName) prog_11_method_1_code (1 : Nat) (Option.none : Option Jvm.ClassFile.FieldType)) ∈ zW := zW_t (List.mem_of_getElem? (i := 93) (by decide +kernel)) rfl
theorem q94 : (Jvm.Cond.methodLink "TraceMachines$Tree" (3 : Nat) ({ cls := "java/lang/Object", name := "<init>", desc := "()V" } : Jvm.MethodName)) ∈ zW := zW_t (List.mem_of_getElem? (i := 94) (by decide +kernel)) rfl
theorem q95 : (Jvm.Cond.fieldLink "TraceMachines$Tree" (36 : Nat) "TraceMachines$Tree" "known" "Z") ∈ zW := zW_t (List.mem_of_getElem? (i := 95) (by decide +kernel)) rfl
theorem q96 : (Jvm.Cond.fieldLink "TraceMachines" (357 : Nat) "TraceMachines$Tree" "known" "Z") ∈ zW := zW_t (List.mem_of_getElem? (i := 96) (by decide +kernel)) rfl
theorem q97 : (Jvm.Cond.fieldLink "TraceMachines$Follows" (38 : Nat) "TraceMachines$Tree" "without" "I") ∈ zW := zW_t (List.mem_of_getElem? (i := 97) (by decide +kernel)) rfl
theorem q98 : (Jvm.Cond.fieldLink "TraceMachines$Tree" (40 : Nat) "TraceMachines$Tree" "without" "I") ∈ zW := zW_t (List.mem_of_getElem? (i := 98) (by decide +kernel)) rfl
theorem q99 : (Jvm.Cond.fieldLink "TraceMachines$Follows" (27 : Nat) "TraceMachines$Tree" "prefixes" "I") ∈ zW := zW_t (List.mem_of_getElem? (i := 99) (by decide +kernel)) rfl
theorem q100 : (Jvm.Cond.fieldLink "TraceMachines$Tree" (44 : Nat) "TraceMachines$Tree" "prefixes" "I") ∈ zW := zW_t (List.mem_of_getElem? (i := 100) (by decide +kernel)) rfl
theorem q101 : (Jvm.Cond.fieldLink "TraceMachines$Machine" (85 : Nat) "TraceMachines$Tree" "prefixes" "I") ∈ zW := zW_t (List.mem_of_getElem? (i := 101) (by decide +kernel)) rfl
theorem q102 : (Jvm.Cond.fieldLink "TraceMachines" (352 : Nat) "TraceMachines$Tree" "prefixes" "I") ∈ zW := zW_t (List.mem_of_getElem? (i := 102) (by decide +kernel)) rfl
theorem q103 : (Jvm.Cond.fieldLink "TraceMachines$Tree" (9 : Nat) "TraceMachines$Tree" "parent" "[I") ∈ zW := zW_t (List.mem_of_getElem? (i := 103) (by decide +kernel)) rfl
theorem q104 : (Jvm.Cond.fieldLink "TraceMachines$Machine" (97 : Nat) "TraceMachines$Tree" "parent" "[I") ∈ zW := zW_t (List.mem_of_getElem? (i := 104) (by decide +kernel)) rfl
theorem q105 : (Jvm.Cond.fieldLink "TraceMachines$Tree" (15 : Nat) "TraceMachines$Tree" "letter" "[I") ∈ zW := zW_t (List.mem_of_getElem? (i := 105) (by decide +kernel)) rfl
theorem q106 : (Jvm.Cond.fieldLink "TraceMachines$Machine" (100 : Nat) "TraceMachines$Tree" "letter" "[I") ∈ zW := zW_t (List.mem_of_getElem? (i := 106) (by decide +kernel)) rfl
theorem q107 : (Jvm.Cond.fieldLink "TraceMachines$Tree" (18 : Nat) "TraceMachines$Tree" "goers" "[I") ∈ zW := zW_t (List.mem_of_getElem? (i := 107) (by decide +kernel)) rfl
theorem q108 : (Jvm.Cond.fieldLink "TraceMachines$Machine" (119 : Nat) "TraceMachines$Tree" "goers" "[I") ∈ zW := zW_t (List.mem_of_getElem? (i := 108) (by decide +kernel)) rfl
theorem q109 : (Jvm.Cond.fieldLink "TraceMachines$Tree" (21 : Nat) "TraceMachines$Tree" "enders" "[I") ∈ zW := zW_t (List.mem_of_getElem? (i := 109) (by decide +kernel)) rfl
theorem q110 : (Jvm.Cond.fieldLink "TraceMachines$Machine" (96 : Nat) "TraceMachines$Tree" "enders" "[I") ∈ zW := zW_t (List.mem_of_getElem? (i := 110) (by decide +kernel)) rfl
theorem q111 : (Jvm.Cond.fieldLink "TraceMachines$Tree" (24 : Nat) "TraceMachines$Tree" "low" "[I") ∈ zW := zW_t (List.mem_of_getElem? (i := 111) (by decide +kernel)) rfl
theorem q112 : (Jvm.Cond.fieldLink "TraceMachines$Machine" (122 : Nat) "TraceMachines$Tree" "low" "[I") ∈ zW := zW_t (List.mem_of_getElem? (i := 112) (by decide +kernel)) rfl
theorem q113 : (Jvm.Cond.fieldLink "TraceMachines$Tree" (27 : Nat) "TraceMachines$Tree" "high" "[I") ∈ zW := zW_t (List.mem_of_getElem? (i := 113) (by decide +kernel)) rfl
theorem q114 : (Jvm.Cond.fieldLink "TraceMachines$Machine" (129 : Nat) "TraceMachines$Tree" "high" "[I") ∈ zW := zW_t (List.mem_of_getElem? (i := 114) (by decide +kernel)) rfl
theorem q115 : (Jvm.Cond.fieldLink "TraceMachines$Tree" (30 : Nat) "TraceMachines$Tree" "longer" "[I") ∈ zW := zW_t (List.mem_of_getElem? (i := 115) (by decide +kernel)) rfl
theorem q116 : (Jvm.Cond.fieldLink "TraceMachines$Tree" (33 : Nat) "TraceMachines$Tree" "places" "[I") ∈ zW := zW_t (List.mem_of_getElem? (i := 116) (by decide +kernel)) rfl
theorem q117 : (Jvm.Cond.lays "TraceMachines$Tree" "TraceMachines$Tree" "known" "Z") ∈ zW := zW_t (List.mem_of_getElem? (i := 117) (by decide +kernel)) rfl
theorem q119 : (Jvm.Cond.lays "TraceMachines$Tree" "TraceMachines$Tree" "without" "I") ∈ zW := zW_t (List.mem_of_getElem? (i := 119) (by decide +kernel)) rfl
theorem q121 : (Jvm.Cond.lays "TraceMachines$Tree" "TraceMachines$Tree" "prefixes" "I") ∈ zW := zW_t (List.mem_of_getElem? (i := 121) (by decide +kernel)) rfl
theorem q123 : (Jvm.Cond.laysFinal "TraceMachines$Tree" "TraceMachines$Tree" "parent" "[I") ∈ zW := zW_t (List.mem_of_getElem? (i := 123) (by decide +kernel)) rfl
theorem q125 : (Jvm.Cond.laysFinal "TraceMachines$Tree" "TraceMachines$Tree" "letter" "[I") ∈ zW := zW_t (List.mem_of_getElem? (i := 125) (by decide +kernel)) rfl
theorem q127 : (Jvm.Cond.laysFinal "TraceMachines$Tree" "TraceMachines$Tree" "goers" "[I") ∈ zW := zW_t (List.mem_of_getElem? (i := 127) (by decide +kernel)) rfl
theorem q129 : (Jvm.Cond.laysFinal "TraceMachines$Tree" "TraceMachines$Tree" "enders" "[I") ∈ zW := zW_t (List.mem_of_getElem? (i := 129) (by decide +kernel)) rfl
theorem q131 : (Jvm.Cond.laysFinal "TraceMachines$Tree" "TraceMachines$Tree" "low" "[I") ∈ zW := zW_t (List.mem_of_getElem? (i := 131) (by decide +kernel)) rfl
theorem q133 : (Jvm.Cond.laysFinal "TraceMachines$Tree" "TraceMachines$Tree" "high" "[I") ∈ zW := zW_t (List.mem_of_getElem? (i := 133) (by decide +kernel)) rfl
theorem q135 : (Jvm.Cond.laysFinal "TraceMachines$Tree" "TraceMachines$Tree" "longer" "[I") ∈ zW := zW_t (List.mem_of_getElem? (i := 135) (by decide +kernel)) rfl
theorem q137 : (Jvm.Cond.laysFinal "TraceMachines$Tree" "TraceMachines$Tree" "places" "[I") ∈ zW := zW_t (List.mem_of_getElem? (i := 137) (by decide +kernel)) rfl
theorem q140 : (Jvm.Cond.classLink "TraceMachines" (40 : Nat) "TraceMachines$Follows") ∈ zW := zW_t (List.mem_of_getElem? (i := 140) (by decide +kernel)) rfl
theorem q141 : (Jvm.Cond.instantiable "TraceMachines$Follows" (3 : Nat)) ∈ zW := zW_t (List.mem_of_getElem? (i := 141) (by decide +kernel)) rfl
theorem q143 : (Jvm.Cond.instanceMethod ({ cls := "TraceMachines$Follows", name := "<init>", desc := "()V" } : Jvm.MethodName)) ∈ zW := zW_t (List.mem_of_getElem? (i := 143) (by decide +kernel)) rfl
theorem q144 : (Jvm.Cond.code ({ cls := "TraceMachines$Follows", name := "<init>", desc := "()V" } : Jvm.MethodName) prog_3_method_1_code (1 : Nat) (Option.none : Option Jvm.ClassFile.FieldType)) ∈ zW := zW_t (List.mem_of_getElem? (i := 144) (by decide +kernel)) rfl
theorem q145 : (Jvm.Cond.methodLink "TraceMachines$Follows" (3 : Nat) ({ cls := "java/lang/Object", name := "<init>", desc := "()V" } : Jvm.MethodName)) ∈ zW := zW_t (List.mem_of_getElem? (i := 145) (by decide +kernel)) rfl
theorem q146 : (Jvm.Cond.fieldLink "TraceMachines$Follows" (9 : Nat) "TraceMachines$Follows" "counts" "[I") ∈ zW := zW_t (List.mem_of_getElem? (i := 146) (by decide +kernel)) rfl
theorem q147 : (Jvm.Cond.fieldLink "TraceMachines$Machine" (93 : Nat) "TraceMachines$Follows" "counts" "[I") ∈ zW := zW_t (List.mem_of_getElem? (i := 147) (by decide +kernel)) rfl
theorem q148 : (Jvm.Cond.fieldLink "TraceMachines$Follows" (15 : Nat) "TraceMachines$Follows" "rows" "[I") ∈ zW := zW_t (List.mem_of_getElem? (i := 148) (by decide +kernel)) rfl
theorem q149 : (Jvm.Cond.fieldLink "TraceMachines$Follows" (18 : Nat) "TraceMachines$Follows" "slots" "[I") ∈ zW := zW_t (List.mem_of_getElem? (i := 149) (by decide +kernel)) rfl
theorem q150 : (Jvm.Cond.laysFinal "TraceMachines$Follows" "TraceMachines$Follows" "counts" "[I") ∈ zW := zW_t (List.mem_of_getElem? (i := 150) (by decide +kernel)) rfl
theorem q152 : (Jvm.Cond.laysFinal "TraceMachines$Follows" "TraceMachines$Follows" "rows" "[I") ∈ zW := zW_t (List.mem_of_getElem? (i := 152) (by decide +kernel)) rfl
theorem q154 : (Jvm.Cond.laysFinal "TraceMachines$Follows" "TraceMachines$Follows" "slots" "[I") ∈ zW := zW_t (List.mem_of_getElem? (i := 154) (by decide +kernel)) rfl
theorem q157 : (Jvm.Cond.classLink "TraceMachines" (47 : Nat) "TraceMachines$Machine") ∈ zW := zW_t (List.mem_of_getElem? (i := 157) (by decide +kernel)) rfl
theorem q159 : (Jvm.Cond.instantiable "TraceMachines$Machine" (15 : Nat)) ∈ zW := zW_t (List.mem_of_getElem? (i := 159) (by decide +kernel)) rfl
theorem q161 : (Jvm.Cond.instanceMethod ({ cls := "TraceMachines$Machine", name := "<init>", desc := "()V" } : Jvm.MethodName)) ∈ zW := zW_t (List.mem_of_getElem? (i := 161) (by decide +kernel)) rfl
theorem q162 : (Jvm.Cond.code ({ cls := "TraceMachines$Machine", name := "<init>", desc := "()V" } : Jvm.MethodName) prog_4_method_1_code (1 : Nat) (Option.none : Option Jvm.ClassFile.FieldType)) ∈ zW := zW_t (List.mem_of_getElem? (i := 162) (by decide +kernel)) rfl
theorem q163 : (Jvm.Cond.methodLink "TraceMachines$Machine" (5 : Nat) ({ cls := "java/lang/Object", name := "<init>", desc := "()V" } : Jvm.MethodName)) ∈ zW := zW_t (List.mem_of_getElem? (i := 163) (by decide +kernel)) rfl
theorem q164 : (Jvm.Cond.fieldLink "TraceMachines$Machine" (51 : Nat) "TraceMachines$Machine" "known" "Z") ∈ zW := zW_t (List.mem_of_getElem? (i := 164) (by decide +kernel)) rfl
theorem q165 : (Jvm.Cond.fieldLink "TraceMachines" (358 : Nat) "TraceMachines$Machine" "known" "Z") ∈ zW := zW_t (List.mem_of_getElem? (i := 165) (by decide +kernel)) rfl
theorem q166 : (Jvm.Cond.fieldLink "TraceMachines$Words" (42 : Nat) "TraceMachines$Machine" "states" "I") ∈ zW := zW_t (List.mem_of_getElem? (i := 166) (by decide +kernel)) rfl
theorem q167 : (Jvm.Cond.fieldLink "TraceMachines$Parting" (74 : Nat) "TraceMachines$Machine" "states" "I") ∈ zW := zW_t (List.mem_of_getElem? (i := 167) (by decide +kernel)) rfl
theorem q168 : (Jvm.Cond.fieldLink "TraceMachines$Machine" (75 : Nat) "TraceMachines$Machine" "states" "I") ∈ zW := zW_t (List.mem_of_getElem? (i := 168) (by decide +kernel)) rfl
theorem q169 : (Jvm.Cond.fieldLink "TraceMachines" (199 : Nat) "TraceMachines$Machine" "states" "I") ∈ zW := zW_t (List.mem_of_getElem? (i := 169) (by decide +kernel)) rfl
theorem q170 : (Jvm.Cond.fieldLink "TraceMachines$Machine" (11 : Nat) "TraceMachines$Machine" "stateOf" "[I") ∈ zW := zW_t (List.mem_of_getElem? (i := 170) (by decide +kernel)) rfl
theorem q171 : (Jvm.Cond.fieldLink "TraceMachines" (196 : Nat) "TraceMachines$Machine" "stateOf" "[I") ∈ zW := zW_t (List.mem_of_getElem? (i := 171) (by decide +kernel)) rfl
theorem q172 : (Jvm.Cond.fieldLink "TraceMachines$Machine" (15 : Nat) "TraceMachines$Machine" "leastPrefix" "[I") ∈ zW := zW_t (List.mem_of_getElem? (i := 172) (by decide +kernel)) rfl
theorem q173 : (Jvm.Cond.fieldLink "TraceMachines" (202 : Nat) "TraceMachines$Machine" "leastPrefix" "[I") ∈ zW := zW_t (List.mem_of_getElem? (i := 173) (by decide +kernel)) rfl
theorem q174 : (Jvm.Cond.fieldLink "TraceMachines$Machine" (18 : Nat) "TraceMachines$Machine" "prefixes" "[I") ∈ zW := zW_t (List.mem_of_getElem? (i := 174) (by decide +kernel)) rfl
theorem q175 : (Jvm.Cond.fieldLink "TraceMachines" (205 : Nat) "TraceMachines$Machine" "prefixes" "[I") ∈ zW := zW_t (List.mem_of_getElem? (i := 175) (by decide +kernel)) rfl
theorem q176 : (Jvm.Cond.fieldLink "TraceMachines$Machine" (21 : Nat) "TraceMachines$Machine" "enders" "[I") ∈ zW := zW_t (List.mem_of_getElem? (i := 176) (by decide +kernel)) rfl
theorem q177 : (Jvm.Cond.fieldLink "TraceMachines$Words" (107 : Nat) "TraceMachines$Machine" "enders" "[I") ∈ zW := zW_t (List.mem_of_getElem? (i := 177) (by decide +kernel)) rfl
theorem q178 : (Jvm.Cond.fieldLink "TraceMachines" (208 : Nat) "TraceMachines$Machine" "enders" "[I") ∈ zW := zW_t (List.mem_of_getElem? (i := 178) (by decide +kernel)) rfl
theorem q179 : (Jvm.Cond.fieldLink "TraceMachines$Machine" (24 : Nat) "TraceMachines$Machine" "rows" "[I") ∈ zW := zW_t (List.mem_of_getElem? (i := 179) (by decide +kernel)) rfl
theorem q180 : (Jvm.Cond.fieldLink "TraceMachines" (217 : Nat) "TraceMachines$Machine" "rows" "[I") ∈ zW := zW_t (List.mem_of_getElem? (i := 180) (by decide +kernel)) rfl
theorem q181 : (Jvm.Cond.fieldLink "TraceMachines$Machine" (29 : Nat) "TraceMachines$Machine" "finals" "[J") ∈ zW := zW_t (List.mem_of_getElem? (i := 181) (by decide +kernel)) rfl
theorem q182 : (Jvm.Cond.fieldLink "TraceMachines$Cover" (42 : Nat) "TraceMachines$Machine" "edges" "I") ∈ zW := zW_t (List.mem_of_getElem? (i := 182) (by decide +kernel)) rfl
theorem q183 : (Jvm.Cond.fieldLink "TraceMachines$Words" (116 : Nat) "TraceMachines$Machine" "edges" "I") ∈ zW := zW_t (List.mem_of_getElem? (i := 183) (by decide +kernel)) rfl
theorem q184 : (Jvm.Cond.fieldLink "TraceMachines$Machine" (103 : Nat) "TraceMachines$Machine" "edges" "I") ∈ zW := zW_t (List.mem_of_getElem? (i := 184) (by decide +kernel)) rfl
theorem q185 : (Jvm.Cond.fieldLink "TraceMachines" (220 : Nat) "TraceMachines$Machine" "edges" "I") ∈ zW := zW_t (List.mem_of_getElem? (i := 185) (by decide +kernel)) rfl
theorem q186 : (Jvm.Cond.fieldLink "TraceMachines$Machine" (33 : Nat) "TraceMachines$Machine" "keys" "[I") ∈ zW := zW_t (List.mem_of_getElem? (i := 186) (by decide +kernel)) rfl
theorem q187 : (Jvm.Cond.fieldLink "TraceMachines$Machine" (36 : Nat) "TraceMachines$Machine" "support" "[I") ∈ zW := zW_t (List.mem_of_getElem? (i := 187) (by decide +kernel)) rfl
theorem q188 : (Jvm.Cond.fieldLink "TraceMachines$Odds" (28 : Nat) "TraceMachines$Machine" "support" "[I") ∈ zW := zW_t (List.mem_of_getElem? (i := 188) (by decide +kernel)) rfl
theorem q189 : (Jvm.Cond.fieldLink "TraceMachines$Words" (136 : Nat) "TraceMachines$Machine" "support" "[I") ∈ zW := zW_t (List.mem_of_getElem? (i := 189) (by decide +kernel)) rfl
theorem q190 : (Jvm.Cond.fieldLink "TraceMachines" (232 : Nat) "TraceMachines$Machine" "support" "[I") ∈ zW := zW_t (List.mem_of_getElem? (i := 190) (by decide +kernel)) rfl
theorem q191 : (Jvm.Cond.fieldLink "TraceMachines$Machine" (39 : Nat) "TraceMachines$Machine" "low" "[I") ∈ zW := zW_t (List.mem_of_getElem? (i := 191) (by decide +kernel)) rfl
theorem q192 : (Jvm.Cond.fieldLink "TraceMachines" (235 : Nat) "TraceMachines$Machine" "low" "[I") ∈ zW := zW_t (List.mem_of_getElem? (i := 192) (by decide +kernel)) rfl
theorem q193 : (Jvm.Cond.fieldLink "TraceMachines$Machine" (42 : Nat) "TraceMachines$Machine" "high" "[I") ∈ zW := zW_t (List.mem_of_getElem? (i := 193) (by decide +kernel)) rfl
theorem q194 : (Jvm.Cond.fieldLink "TraceMachines" (238 : Nat) "TraceMachines$Machine" "high" "[I") ∈ zW := zW_t (List.mem_of_getElem? (i := 194) (by decide +kernel)) rfl
theorem q195 : (Jvm.Cond.fieldLink "TraceMachines$Machine" (45 : Nat) "TraceMachines$Machine" "firstEdge" "[I") ∈ zW := zW_t (List.mem_of_getElem? (i := 195) (by decide +kernel)) rfl
theorem q196 : (Jvm.Cond.fieldLink "TraceMachines$Words" (133 : Nat) "TraceMachines$Machine" "firstEdge" "[I") ∈ zW := zW_t (List.mem_of_getElem? (i := 196) (by decide +kernel)) rfl
theorem q197 : (Jvm.Cond.fieldLink "TraceMachines" (211 : Nat) "TraceMachines$Machine" "firstEdge" "[I") ∈ zW := zW_t (List.mem_of_getElem? (i := 197) (by decide +kernel)) rfl
theorem q198 : (Jvm.Cond.fieldLink "TraceMachines$Machine" (48 : Nat) "TraceMachines$Machine" "edgeTo" "[I") ∈ zW := zW_t (List.mem_of_getElem? (i := 198) (by decide +kernel)) rfl
theorem q199 : (Jvm.Cond.fieldLink "TraceMachines$Odds" (33 : Nat) "TraceMachines$Machine" "edgeTo" "[I") ∈ zW := zW_t (List.mem_of_getElem? (i := 199) (by decide +kernel)) rfl
theorem q200 : (Jvm.Cond.fieldLink "TraceMachines$Cover" (57 : Nat) "TraceMachines$Machine" "edgeTo" "[I") ∈ zW := zW_t (List.mem_of_getElem? (i := 200) (by decide +kernel)) rfl
theorem q201 : (Jvm.Cond.lays "TraceMachines$Machine" "TraceMachines$Machine" "known" "Z") ∈ zW := zW_t (List.mem_of_getElem? (i := 201) (by decide +kernel)) rfl
theorem q203 : (Jvm.Cond.lays "TraceMachines$Machine" "TraceMachines$Machine" "states" "I") ∈ zW := zW_t (List.mem_of_getElem? (i := 203) (by decide +kernel)) rfl
theorem q205 : (Jvm.Cond.laysFinal "TraceMachines$Machine" "TraceMachines$Machine" "stateOf" "[I") ∈ zW := zW_t (List.mem_of_getElem? (i := 205) (by decide +kernel)) rfl
theorem q207 : (Jvm.Cond.laysFinal "TraceMachines$Machine" "TraceMachines$Machine" "leastPrefix" "[I") ∈ zW := zW_t (List.mem_of_getElem? (i := 207) (by decide +kernel)) rfl
theorem q209 : (Jvm.Cond.laysFinal "TraceMachines$Machine" "TraceMachines$Machine" "prefixes" "[I") ∈ zW := zW_t (List.mem_of_getElem? (i := 209) (by decide +kernel)) rfl
theorem q211 : (Jvm.Cond.laysFinal "TraceMachines$Machine" "TraceMachines$Machine" "enders" "[I") ∈ zW := zW_t (List.mem_of_getElem? (i := 211) (by decide +kernel)) rfl
theorem q213 : (Jvm.Cond.laysFinal "TraceMachines$Machine" "TraceMachines$Machine" "rows" "[I") ∈ zW := zW_t (List.mem_of_getElem? (i := 213) (by decide +kernel)) rfl
theorem q215 : (Jvm.Cond.laysFinal "TraceMachines$Machine" "TraceMachines$Machine" "finals" "[J") ∈ zW := zW_t (List.mem_of_getElem? (i := 215) (by decide +kernel)) rfl
theorem q217 : (Jvm.Cond.lays "TraceMachines$Machine" "TraceMachines$Machine" "edges" "I") ∈ zW := zW_t (List.mem_of_getElem? (i := 217) (by decide +kernel)) rfl
theorem q219 : (Jvm.Cond.laysFinal "TraceMachines$Machine" "TraceMachines$Machine" "keys" "[I") ∈ zW := zW_t (List.mem_of_getElem? (i := 219) (by decide +kernel)) rfl
theorem q221 : (Jvm.Cond.laysFinal "TraceMachines$Machine" "TraceMachines$Machine" "support" "[I") ∈ zW := zW_t (List.mem_of_getElem? (i := 221) (by decide +kernel)) rfl
theorem q223 : (Jvm.Cond.laysFinal "TraceMachines$Machine" "TraceMachines$Machine" "low" "[I") ∈ zW := zW_t (List.mem_of_getElem? (i := 223) (by decide +kernel)) rfl
theorem q225 : (Jvm.Cond.laysFinal "TraceMachines$Machine" "TraceMachines$Machine" "high" "[I") ∈ zW := zW_t (List.mem_of_getElem? (i := 225) (by decide +kernel)) rfl
theorem q227 : (Jvm.Cond.laysFinal "TraceMachines$Machine" "TraceMachines$Machine" "firstEdge" "[I") ∈ zW := zW_t (List.mem_of_getElem? (i := 227) (by decide +kernel)) rfl
theorem q229 : (Jvm.Cond.laysFinal "TraceMachines$Machine" "TraceMachines$Machine" "edgeTo" "[I") ∈ zW := zW_t (List.mem_of_getElem? (i := 229) (by decide +kernel)) rfl
theorem q232 : (Jvm.Cond.arrayClass Jvm.ClassFile.FieldType.long) ∈ zW := zW_t (List.mem_of_getElem? (i := 232) (by decide +kernel)) rfl
theorem q233 : (Jvm.Cond.classLink "TraceMachines" (61 : Nat) "TraceMachines$StateSets") ∈ zW := zW_t (List.mem_of_getElem? (i := 233) (by decide +kernel)) rfl
theorem q234 : (Jvm.Cond.instantiable "TraceMachines$StateSets" (5 : Nat)) ∈ zW := zW_t (List.mem_of_getElem? (i := 234) (by decide +kernel)) rfl
theorem q235 : (Jvm.Cond.methodLink "TraceMachines" (63 : Nat) ({ cls := "TraceMachines$StateSets", name := "<init>", desc := "(II)V" } : Jvm.MethodName)) ∈ zW := zW_t (List.mem_of_getElem? (i := 235) (by decide +kernel)) rfl
theorem q236 : (Jvm.Cond.instanceMethod ({ cls := "TraceMachines$StateSets", name := "<init>", desc := "(II)V" } : Jvm.MethodName)) ∈ zW := zW_t (List.mem_of_getElem? (i := 236) (by decide +kernel)) rfl
theorem q237 : (Jvm.Cond.code ({ cls := "TraceMachines$StateSets", name := "<init>", desc := "(II)V" } : Jvm.MethodName) prog_8_method_1_code (4 : Nat) (Option.none : Option Jvm.ClassFile.FieldType)) ∈ zW := zW_t (List.mem_of_getElem? (i := 237) (by decide +kernel)) rfl
theorem q238 : (Jvm.Cond.methodLink "TraceMachines$StateSets" (3 : Nat) ({ cls := "java/lang/Object", name := "<init>", desc := "()V" } : Jvm.MethodName)) ∈ zW := zW_t (List.mem_of_getElem? (i := 238) (by decide +kernel)) rfl
theorem q239 : (Jvm.Cond.fieldLink "TraceMachines$StateSets" (26 : Nat) "TraceMachines$StateSets" "count" "I") ∈ zW := zW_t (List.mem_of_getElem? (i := 239) (by decide +kernel)) rfl
theorem q240 : (Jvm.Cond.fieldLink "TraceMachines$Words" (74 : Nat) "TraceMachines$StateSets" "count" "I") ∈ zW := zW_t (List.mem_of_getElem? (i := 240) (by decide +kernel)) rfl
theorem q241 : (Jvm.Cond.fieldLink "TraceMachines$Parting" (54 : Nat) "TraceMachines$StateSets" "count" "I") ∈ zW := zW_t (List.mem_of_getElem? (i := 241) (by decide +kernel)) rfl
theorem q242 : (Jvm.Cond.fieldLink "TraceMachines$StateSets" (15 : Nat) "TraceMachines$StateSets" "width" "I") ∈ zW := zW_t (List.mem_of_getElem? (i := 242) (by decide +kernel)) rfl
theorem q243 : (Jvm.Cond.fieldLink "TraceMachines$StateSets" (9 : Nat) "TraceMachines$StateSets" "room" "I") ∈ zW := zW_t (List.mem_of_getElem? (i := 243) (by decide +kernel)) rfl
theorem q244 : (Jvm.Cond.fieldLink "TraceMachines$StateSets" (18 : Nat) "TraceMachines$StateSets" "bits" "[J") ∈ zW := zW_t (List.mem_of_getElem? (i := 244) (by decide +kernel)) rfl
theorem q245 : (Jvm.Cond.fieldLink "TraceMachines$StateSets" (22 : Nat) "TraceMachines$StateSets" "slots" "[I") ∈ zW := zW_t (List.mem_of_getElem? (i := 245) (by decide +kernel)) rfl
theorem q246 : (Jvm.Cond.lays "TraceMachines$StateSets" "TraceMachines$StateSets" "count" "I") ∈ zW := zW_t (List.mem_of_getElem? (i := 246) (by decide +kernel)) rfl
theorem q248 : (Jvm.Cond.laysFinal "TraceMachines$StateSets" "TraceMachines$StateSets" "width" "I") ∈ zW := zW_t (List.mem_of_getElem? (i := 248) (by decide +kernel)) rfl
theorem q250 : (Jvm.Cond.laysFinal "TraceMachines$StateSets" "TraceMachines$StateSets" "room" "I") ∈ zW := zW_t (List.mem_of_getElem? (i := 250) (by decide +kernel)) rfl
theorem q252 : (Jvm.Cond.laysFinal "TraceMachines$StateSets" "TraceMachines$StateSets" "bits" "[J") ∈ zW := zW_t (List.mem_of_getElem? (i := 252) (by decide +kernel)) rfl
theorem q254 : (Jvm.Cond.laysFinal "TraceMachines$StateSets" "TraceMachines$StateSets" "slots" "[I") ∈ zW := zW_t (List.mem_of_getElem? (i := 254) (by decide +kernel)) rfl
theorem q257 : (Jvm.Cond.classLink "TraceMachines" (74 : Nat) "TraceMachines$Words") ∈ zW := zW_t (List.mem_of_getElem? (i := 257) (by decide +kernel)) rfl
theorem q258 : (Jvm.Cond.instantiable "TraceMachines$Words" (8 : Nat)) ∈ zW := zW_t (List.mem_of_getElem? (i := 258) (by decide +kernel)) rfl
theorem q260 : (Jvm.Cond.instanceMethod ({ cls := "TraceMachines$Words", name := "<init>", desc := "()V" } : Jvm.MethodName)) ∈ zW := zW_t (List.mem_of_getElem? (i := 260) (by decide +kernel)) rfl
theorem q261 : (Jvm.Cond.code ({ cls := "TraceMachines$Words", name := "<init>", desc := "()V" } : Jvm.MethodName) prog_12_method_1_code (1 : Nat) (Option.none : Option Jvm.ClassFile.FieldType)) ∈ zW := zW_t (List.mem_of_getElem? (i := 261) (by decide +kernel)) rfl
theorem q262 : (Jvm.Cond.methodLink "TraceMachines$Words" (3 : Nat) ({ cls := "java/lang/Object", name := "<init>", desc := "()V" } : Jvm.MethodName)) ∈ zW := zW_t (List.mem_of_getElem? (i := 262) (by decide +kernel)) rfl
theorem q263 : (Jvm.Cond.classLink "TraceMachines$Words" (15 : Nat) "TraceMachines$StateSets") ∈ zW := zW_t (List.mem_of_getElem? (i := 263) (by decide +kernel)) rfl
theorem q264 : (Jvm.Cond.methodLink "TraceMachines$Words" (17 : Nat) ({ cls := "TraceMachines$StateSets", name := "<init>", desc := "(II)V" } : Jvm.MethodName)) ∈ zW := zW_t (List.mem_of_getElem? (i := 264) (by decide +kernel)) rfl
theorem q265 : (Jvm.Cond.fieldLink "TraceMachines$Words" (9 : Nat) "TraceMachines$Words" "path" "[I") ∈ zW := zW_t (List.mem_of_getElem? (i := 265) (by decide +kernel)) rfl
theorem q266 : (Jvm.Cond.fieldLink "TraceMachines" (302 : Nat) "TraceMachines$Words" "path" "[I") ∈ zW := zW_t (List.mem_of_getElem? (i := 266) (by decide +kernel)) rfl
theorem q267 : (Jvm.Cond.fieldLink "TraceMachines$Words" (20 : Nat) "TraceMachines$Words" "fan" "LTraceMachines$StateSets;") ∈ zW := zW_t (List.mem_of_getElem? (i := 267) (by decide +kernel)) rfl
theorem q268 : (Jvm.Cond.fieldLink "TraceMachines$Words" (24 : Nat) "TraceMachines$Words" "here" "LTraceMachines$StateSets;") ∈ zW := zW_t (List.mem_of_getElem? (i := 268) (by decide +kernel)) rfl
theorem q269 : (Jvm.Cond.fieldLink "TraceMachines$Words" (27 : Nat) "TraceMachines$Words" "next" "LTraceMachines$StateSets;") ∈ zW := zW_t (List.mem_of_getElem? (i := 269) (by decide +kernel)) rfl
theorem q270 : (Jvm.Cond.fieldLink "TraceMachines$Words" (30 : Nat) "TraceMachines$Words" "wordsHere" "[I") ∈ zW := zW_t (List.mem_of_getElem? (i := 270) (by decide +kernel)) rfl
theorem q271 : (Jvm.Cond.fieldLink "TraceMachines$Words" (33 : Nat) "TraceMachines$Words" "wordsNext" "[I") ∈ zW := zW_t (List.mem_of_getElem? (i := 271) (by decide +kernel)) rfl
theorem q272 : (Jvm.Cond.fieldLink "TraceMachines$Words" (36 : Nat) "TraceMachines$Words" "waysHere" "[I") ∈ zW := zW_t (List.mem_of_getElem? (i := 272) (by decide +kernel)) rfl
theorem q273 : (Jvm.Cond.fieldLink "TraceMachines$Words" (39 : Nat) "TraceMachines$Words" "waysNext" "[I") ∈ zW := zW_t (List.mem_of_getElem? (i := 273) (by decide +kernel)) rfl
theorem q274 : (Jvm.Cond.laysFinal "TraceMachines$Words" "TraceMachines$Words" "path" "[I") ∈ zW := zW_t (List.mem_of_getElem? (i := 274) (by decide +kernel)) rfl
theorem q276 : (Jvm.Cond.laysFinal "TraceMachines$Words" "TraceMachines$Words" "fan" "LTraceMachines$StateSets;") ∈ zW := zW_t (List.mem_of_getElem? (i := 276) (by decide +kernel)) rfl
theorem q278 : (Jvm.Cond.lays "TraceMachines$Words" "TraceMachines$Words" "here" "LTraceMachines$StateSets;") ∈ zW := zW_t (List.mem_of_getElem? (i := 278) (by decide +kernel)) rfl
theorem q280 : (Jvm.Cond.lays "TraceMachines$Words" "TraceMachines$Words" "next" "LTraceMachines$StateSets;") ∈ zW := zW_t (List.mem_of_getElem? (i := 280) (by decide +kernel)) rfl
theorem q282 : (Jvm.Cond.lays "TraceMachines$Words" "TraceMachines$Words" "wordsHere" "[I") ∈ zW := zW_t (List.mem_of_getElem? (i := 282) (by decide +kernel)) rfl
theorem q284 : (Jvm.Cond.lays "TraceMachines$Words" "TraceMachines$Words" "wordsNext" "[I") ∈ zW := zW_t (List.mem_of_getElem? (i := 284) (by decide +kernel)) rfl
theorem q286 : (Jvm.Cond.lays "TraceMachines$Words" "TraceMachines$Words" "waysHere" "[I") ∈ zW := zW_t (List.mem_of_getElem? (i := 286) (by decide +kernel)) rfl
theorem q288 : (Jvm.Cond.lays "TraceMachines$Words" "TraceMachines$Words" "waysNext" "[I") ∈ zW := zW_t (List.mem_of_getElem? (i := 288) (by decide +kernel)) rfl
theorem q291 : (Jvm.Cond.classLink "TraceMachines" (81 : Nat) "TraceMachines$Parting") ∈ zW := zW_t (List.mem_of_getElem? (i := 291) (by decide +kernel)) rfl
theorem q292 : (Jvm.Cond.instantiable "TraceMachines$Parting" (10 : Nat)) ∈ zW := zW_t (List.mem_of_getElem? (i := 292) (by decide +kernel)) rfl
theorem q294 : (Jvm.Cond.instanceMethod ({ cls := "TraceMachines$Parting", name := "<init>", desc := "()V" } : Jvm.MethodName)) ∈ zW := zW_t (List.mem_of_getElem? (i := 294) (by decide +kernel)) rfl
theorem q295 : (Jvm.Cond.code ({ cls := "TraceMachines$Parting", name := "<init>", desc := "()V" } : Jvm.MethodName) prog_7_method_1_code (1 : Nat) (Option.none : Option Jvm.ClassFile.FieldType)) ∈ zW := zW_t (List.mem_of_getElem? (i := 295) (by decide +kernel)) rfl
theorem q296 : (Jvm.Cond.methodLink "TraceMachines$Parting" (3 : Nat) ({ cls := "java/lang/Object", name := "<init>", desc := "()V" } : Jvm.MethodName)) ∈ zW := zW_t (List.mem_of_getElem? (i := 296) (by decide +kernel)) rfl
theorem q297 : (Jvm.Cond.classLink "TraceMachines$Parting" (15 : Nat) "TraceMachines$StateSets") ∈ zW := zW_t (List.mem_of_getElem? (i := 297) (by decide +kernel)) rfl
theorem q298 : (Jvm.Cond.methodLink "TraceMachines$Parting" (17 : Nat) ({ cls := "TraceMachines$StateSets", name := "<init>", desc := "(II)V" } : Jvm.MethodName)) ∈ zW := zW_t (List.mem_of_getElem? (i := 298) (by decide +kernel)) rfl
theorem q299 : (Jvm.Cond.fieldLink "TraceMachines$Parting" (36 : Nat) "TraceMachines$Parting" "known" "Z") ∈ zW := zW_t (List.mem_of_getElem? (i := 299) (by decide +kernel)) rfl
theorem q300 : (Jvm.Cond.fieldLink "TraceMachines" (359 : Nat) "TraceMachines$Parting" "known" "Z") ∈ zW := zW_t (List.mem_of_getElem? (i := 300) (by decide +kernel)) rfl
theorem q301 : (Jvm.Cond.fieldLink "TraceMachines$Parting" (47 : Nat) "TraceMachines$Parting" "letters" "I") ∈ zW := zW_t (List.mem_of_getElem? (i := 301) (by decide +kernel)) rfl
theorem q302 : (Jvm.Cond.fieldLink "TraceMachines" (292 : Nat) "TraceMachines$Parting" "letters" "I") ∈ zW := zW_t (List.mem_of_getElem? (i := 302) (by decide +kernel)) rfl
theorem q303 : (Jvm.Cond.fieldLink "TraceMachines$Parting" (9 : Nat) "TraceMachines$Parting" "word" "[I") ∈ zW := zW_t (List.mem_of_getElem? (i := 303) (by decide +kernel)) rfl
theorem q304 : (Jvm.Cond.fieldLink "TraceMachines" (295 : Nat) "TraceMachines$Parting" "word" "[I") ∈ zW := zW_t (List.mem_of_getElem? (i := 304) (by decide +kernel)) rfl
theorem q305 : (Jvm.Cond.fieldLink "TraceMachines$Parting" (40 : Nat) "TraceMachines$Parting" "depth" "I") ∈ zW := zW_t (List.mem_of_getElem? (i := 305) (by decide +kernel)) rfl
theorem q306 : (Jvm.Cond.fieldLink "TraceMachines$Parting" (44 : Nat) "TraceMachines$Parting" "otherDepth" "I") ∈ zW := zW_t (List.mem_of_getElem? (i := 306) (by decide +kernel)) rfl
theorem q307 : (Jvm.Cond.fieldLink "TraceMachines$Parting" (20 : Nat) "TraceMachines$Parting" "twos" "LTraceMachines$StateSets;") ∈ zW := zW_t (List.mem_of_getElem? (i := 307) (by decide +kernel)) rfl
theorem q308 : (Jvm.Cond.fieldLink "TraceMachines$Parting" (24 : Nat) "TraceMachines$Parting" "fan" "LTraceMachines$StateSets;") ∈ zW := zW_t (List.mem_of_getElem? (i := 308) (by decide +kernel)) rfl
theorem q309 : (Jvm.Cond.fieldLink "TraceMachines$Parting" (27 : Nat) "TraceMachines$Parting" "cameFrom" "[I") ∈ zW := zW_t (List.mem_of_getElem? (i := 309) (by decide +kernel)) rfl
theorem q310 : (Jvm.Cond.fieldLink "TraceMachines$Parting" (30 : Nat) "TraceMachines$Parting" "cameBy" "[I") ∈ zW := zW_t (List.mem_of_getElem? (i := 310) (by decide +kernel)) rfl
theorem q311 : (Jvm.Cond.fieldLink "TraceMachines$Parting" (33 : Nat) "TraceMachines$Parting" "lengths" "[I") ∈ zW := zW_t (List.mem_of_getElem? (i := 311) (by decide +kernel)) rfl
theorem q312 : (Jvm.Cond.lays "TraceMachines$Parting" "TraceMachines$Parting" "known" "Z") ∈ zW := zW_t (List.mem_of_getElem? (i := 312) (by decide +kernel)) rfl
theorem q314 : (Jvm.Cond.lays "TraceMachines$Parting" "TraceMachines$Parting" "letters" "I") ∈ zW := zW_t (List.mem_of_getElem? (i := 314) (by decide +kernel)) rfl
theorem q316 : (Jvm.Cond.laysFinal "TraceMachines$Parting" "TraceMachines$Parting" "word" "[I") ∈ zW := zW_t (List.mem_of_getElem? (i := 316) (by decide +kernel)) rfl
theorem q318 : (Jvm.Cond.lays "TraceMachines$Parting" "TraceMachines$Parting" "depth" "I") ∈ zW := zW_t (List.mem_of_getElem? (i := 318) (by decide +kernel)) rfl
theorem q320 : (Jvm.Cond.lays "TraceMachines$Parting" "TraceMachines$Parting" "otherDepth" "I") ∈ zW := zW_t (List.mem_of_getElem? (i := 320) (by decide +kernel)) rfl
theorem q322 : (Jvm.Cond.laysFinal "TraceMachines$Parting" "TraceMachines$Parting" "twos" "LTraceMachines$StateSets;") ∈ zW := zW_t (List.mem_of_getElem? (i := 322) (by decide +kernel)) rfl
theorem q324 : (Jvm.Cond.laysFinal "TraceMachines$Parting" "TraceMachines$Parting" "fan" "LTraceMachines$StateSets;") ∈ zW := zW_t (List.mem_of_getElem? (i := 324) (by decide +kernel)) rfl
theorem q326 : (Jvm.Cond.laysFinal "TraceMachines$Parting" "TraceMachines$Parting" "cameFrom" "[I") ∈ zW := zW_t (List.mem_of_getElem? (i := 326) (by decide +kernel)) rfl
theorem q328 : (Jvm.Cond.laysFinal "TraceMachines$Parting" "TraceMachines$Parting" "cameBy" "[I") ∈ zW := zW_t (List.mem_of_getElem? (i := 328) (by decide +kernel)) rfl
theorem q330 : (Jvm.Cond.laysFinal "TraceMachines$Parting" "TraceMachines$Parting" "lengths" "[I") ∈ zW := zW_t (List.mem_of_getElem? (i := 330) (by decide +kernel)) rfl
theorem q333 : (Jvm.Cond.classLink "TraceMachines" (88 : Nat) "TraceMachines$Cover") ∈ zW := zW_t (List.mem_of_getElem? (i := 333) (by decide +kernel)) rfl
theorem q334 : (Jvm.Cond.instantiable "TraceMachines$Cover" (5 : Nat)) ∈ zW := zW_t (List.mem_of_getElem? (i := 334) (by decide +kernel)) rfl
theorem q336 : (Jvm.Cond.instanceMethod ({ cls := "TraceMachines$Cover", name := "<init>", desc := "()V" } : Jvm.MethodName)) ∈ zW := zW_t (List.mem_of_getElem? (i := 336) (by decide +kernel)) rfl
theorem q337 : (Jvm.Cond.code ({ cls := "TraceMachines$Cover", name := "<init>", desc := "()V" } : Jvm.MethodName) prog_2_method_1_code (1 : Nat) (Option.none : Option Jvm.ClassFile.FieldType)) ∈ zW := zW_t (List.mem_of_getElem? (i := 337) (by decide +kernel)) rfl
theorem q338 : (Jvm.Cond.methodLink "TraceMachines$Cover" (3 : Nat) ({ cls := "java/lang/Object", name := "<init>", desc := "()V" } : Jvm.MethodName)) ∈ zW := zW_t (List.mem_of_getElem? (i := 338) (by decide +kernel)) rfl
theorem q339 : (Jvm.Cond.fieldLink "TraceMachines$Cover" (15 : Nat) "TraceMachines$Cover" "known" "Z") ∈ zW := zW_t (List.mem_of_getElem? (i := 339) (by decide +kernel)) rfl
theorem q340 : (Jvm.Cond.fieldLink "TraceMachines" (258 : Nat) "TraceMachines$Cover" "known" "Z") ∈ zW := zW_t (List.mem_of_getElem? (i := 340) (by decide +kernel)) rfl
theorem q341 : (Jvm.Cond.fieldLink "TraceMachines$Cover" (32 : Nat) "TraceMachines$Cover" "best" "I") ∈ zW := zW_t (List.mem_of_getElem? (i := 341) (by decide +kernel)) rfl
theorem q342 : (Jvm.Cond.fieldLink "TraceMachines" (266 : Nat) "TraceMachines$Cover" "best" "I") ∈ zW := zW_t (List.mem_of_getElem? (i := 342) (by decide +kernel)) rfl
theorem q343 : (Jvm.Cond.fieldLink "TraceMachines$Cover" (35 : Nat) "TraceMachines$Cover" "bestSize" "I") ∈ zW := zW_t (List.mem_of_getElem? (i := 343) (by decide +kernel)) rfl
theorem q344 : (Jvm.Cond.fieldLink "TraceMachines$Cover" (9 : Nat) "TraceMachines$Cover" "goers" "[I") ∈ zW := zW_t (List.mem_of_getElem? (i := 344) (by decide +kernel)) rfl
theorem q345 : (Jvm.Cond.fieldLink "TraceMachines$Cover" (47 : Nat) "TraceMachines$Cover" "count" "I") ∈ zW := zW_t (List.mem_of_getElem? (i := 345) (by decide +kernel)) rfl
theorem q346 : (Jvm.Cond.lays "TraceMachines$Cover" "TraceMachines$Cover" "known" "Z") ∈ zW := zW_t (List.mem_of_getElem? (i := 346) (by decide +kernel)) rfl
theorem q348 : (Jvm.Cond.lays "TraceMachines$Cover" "TraceMachines$Cover" "best" "I") ∈ zW := zW_t (List.mem_of_getElem? (i := 348) (by decide +kernel)) rfl
theorem q350 : (Jvm.Cond.lays "TraceMachines$Cover" "TraceMachines$Cover" "bestSize" "I") ∈ zW := zW_t (List.mem_of_getElem? (i := 350) (by decide +kernel)) rfl
theorem q352 : (Jvm.Cond.laysFinal "TraceMachines$Cover" "TraceMachines$Cover" "goers" "[I") ∈ zW := zW_t (List.mem_of_getElem? (i := 352) (by decide +kernel)) rfl
theorem q354 : (Jvm.Cond.lays "TraceMachines$Cover" "TraceMachines$Cover" "count" "I") ∈ zW := zW_t (List.mem_of_getElem? (i := 354) (by decide +kernel)) rfl
theorem q357 : (Jvm.Cond.classLink "TraceMachines" (95 : Nat) "TraceMachines$Pair") ∈ zW := zW_t (List.mem_of_getElem? (i := 357) (by decide +kernel)) rfl
theorem q358 : (Jvm.Cond.instantiable "TraceMachines$Pair" (10 : Nat)) ∈ zW := zW_t (List.mem_of_getElem? (i := 358) (by decide +kernel)) rfl
theorem q360 : (Jvm.Cond.instanceMethod ({ cls := "TraceMachines$Pair", name := "<init>", desc := "()V" } : Jvm.MethodName)) ∈ zW := zW_t (List.mem_of_getElem? (i := 360) (by decide +kernel)) rfl
theorem q361 : (Jvm.Cond.code ({ cls := "TraceMachines$Pair", name := "<init>", desc := "()V" } : Jvm.MethodName) prog_6_method_1_code (1 : Nat) (Option.none : Option Jvm.ClassFile.FieldType)) ∈ zW := zW_t (List.mem_of_getElem? (i := 361) (by decide +kernel)) rfl
theorem q362 : (Jvm.Cond.methodLink "TraceMachines$Pair" (3 : Nat) ({ cls := "java/lang/Object", name := "<init>", desc := "()V" } : Jvm.MethodName)) ∈ zW := zW_t (List.mem_of_getElem? (i := 362) (by decide +kernel)) rfl
theorem q363 : (Jvm.Cond.fieldLink "TraceMachines$Pair" (15 : Nat) "TraceMachines$Pair" "asked" "I") ∈ zW := zW_t (List.mem_of_getElem? (i := 363) (by decide +kernel)) rfl
theorem q364 : (Jvm.Cond.fieldLink "TraceMachines" (315 : Nat) "TraceMachines$Pair" "asked" "I") ∈ zW := zW_t (List.mem_of_getElem? (i := 364) (by decide +kernel)) rfl
theorem q365 : (Jvm.Cond.fieldLink "TraceMachines$Pair" (19 : Nat) "TraceMachines$Pair" "so" "I") ∈ zW := zW_t (List.mem_of_getElem? (i := 365) (by decide +kernel)) rfl
theorem q366 : (Jvm.Cond.fieldLink "TraceMachines" (318 : Nat) "TraceMachines$Pair" "so" "I") ∈ zW := zW_t (List.mem_of_getElem? (i := 366) (by decide +kernel)) rfl
theorem q367 : (Jvm.Cond.fieldLink "TraceMachines$Pair" (68 : Nat) "TraceMachines$Pair" "firstX" "I") ∈ zW := zW_t (List.mem_of_getElem? (i := 367) (by decide +kernel)) rfl
theorem q368 : (Jvm.Cond.fieldLink "TraceMachines$Pair" (71 : Nat) "TraceMachines$Pair" "lastX" "I") ∈ zW := zW_t (List.mem_of_getElem? (i := 368) (by decide +kernel)) rfl
theorem q369 : (Jvm.Cond.fieldLink "TraceMachines$Pair" (59 : Nat) "TraceMachines$Pair" "countX" "I") ∈ zW := zW_t (List.mem_of_getElem? (i := 369) (by decide +kernel)) rfl
theorem q370 : (Jvm.Cond.fieldLink "TraceMachines$Pair" (74 : Nat) "TraceMachines$Pair" "firstY" "I") ∈ zW := zW_t (List.mem_of_getElem? (i := 370) (by decide +kernel)) rfl
theorem q371 : (Jvm.Cond.fieldLink "TraceMachines$Pair" (77 : Nat) "TraceMachines$Pair" "lastY" "I") ∈ zW := zW_t (List.mem_of_getElem? (i := 371) (by decide +kernel)) rfl
theorem q372 : (Jvm.Cond.fieldLink "TraceMachines$Pair" (62 : Nat) "TraceMachines$Pair" "countY" "I") ∈ zW := zW_t (List.mem_of_getElem? (i := 372) (by decide +kernel)) rfl
theorem q373 : (Jvm.Cond.fieldLink "TraceMachines$Pair" (52 : Nat) "TraceMachines$Pair" "rightBehind" "Z") ∈ zW := zW_t (List.mem_of_getElem? (i := 373) (by decide +kernel)) rfl
theorem q374 : (Jvm.Cond.fieldLink "TraceMachines$Pair" (65 : Nat) "TraceMachines$Pair" "inTurn" "Z") ∈ zW := zW_t (List.mem_of_getElem? (i := 374) (by decide +kernel)) rfl
theorem q375 : (Jvm.Cond.lays "TraceMachines$Pair" "TraceMachines$Pair" "asked" "I") ∈ zW := zW_t (List.mem_of_getElem? (i := 375) (by decide +kernel)) rfl
theorem q377 : (Jvm.Cond.lays "TraceMachines$Pair" "TraceMachines$Pair" "so" "I") ∈ zW := zW_t (List.mem_of_getElem? (i := 377) (by decide +kernel)) rfl
theorem q379 : (Jvm.Cond.lays "TraceMachines$Pair" "TraceMachines$Pair" "firstX" "I") ∈ zW := zW_t (List.mem_of_getElem? (i := 379) (by decide +kernel)) rfl
theorem q381 : (Jvm.Cond.lays "TraceMachines$Pair" "TraceMachines$Pair" "lastX" "I") ∈ zW := zW_t (List.mem_of_getElem? (i := 381) (by decide +kernel)) rfl
theorem q383 : (Jvm.Cond.lays "TraceMachines$Pair" "TraceMachines$Pair" "countX" "I") ∈ zW := zW_t (List.mem_of_getElem? (i := 383) (by decide +kernel)) rfl
theorem q385 : (Jvm.Cond.lays "TraceMachines$Pair" "TraceMachines$Pair" "firstY" "I") ∈ zW := zW_t (List.mem_of_getElem? (i := 385) (by decide +kernel)) rfl
theorem q387 : (Jvm.Cond.lays "TraceMachines$Pair" "TraceMachines$Pair" "lastY" "I") ∈ zW := zW_t (List.mem_of_getElem? (i := 387) (by decide +kernel)) rfl
theorem q389 : (Jvm.Cond.lays "TraceMachines$Pair" "TraceMachines$Pair" "countY" "I") ∈ zW := zW_t (List.mem_of_getElem? (i := 389) (by decide +kernel)) rfl
theorem q391 : (Jvm.Cond.lays "TraceMachines$Pair" "TraceMachines$Pair" "rightBehind" "Z") ∈ zW := zW_t (List.mem_of_getElem? (i := 391) (by decide +kernel)) rfl
theorem q393 : (Jvm.Cond.lays "TraceMachines$Pair" "TraceMachines$Pair" "inTurn" "Z") ∈ zW := zW_t (List.mem_of_getElem? (i := 393) (by decide +kernel)) rfl
theorem q396 : (Jvm.Cond.classLink "TraceMachines" (102 : Nat) "TraceMachines$Odds") ∈ zW := zW_t (List.mem_of_getElem? (i := 396) (by decide +kernel)) rfl
theorem q397 : (Jvm.Cond.instantiable "TraceMachines$Odds" (3 : Nat)) ∈ zW := zW_t (List.mem_of_getElem? (i := 397) (by decide +kernel)) rfl
theorem q399 : (Jvm.Cond.instanceMethod ({ cls := "TraceMachines$Odds", name := "<init>", desc := "()V" } : Jvm.MethodName)) ∈ zW := zW_t (List.mem_of_getElem? (i := 399) (by decide +kernel)) rfl
theorem q400 : (Jvm.Cond.code ({ cls := "TraceMachines$Odds", name := "<init>", desc := "()V" } : Jvm.MethodName) prog_5_method_1_code (1 : Nat) (Option.none : Option Jvm.ClassFile.FieldType)) ∈ zW := zW_t (List.mem_of_getElem? (i := 400) (by decide +kernel)) rfl
theorem q401 : (Jvm.Cond.methodLink "TraceMachines$Odds" (3 : Nat) ({ cls := "java/lang/Object", name := "<init>", desc := "()V" } : Jvm.MethodName)) ∈ zW := zW_t (List.mem_of_getElem? (i := 401) (by decide +kernel)) rfl
theorem q402 : (Jvm.Cond.fieldLink "TraceMachines$Odds" (9 : Nat) "TraceMachines$Odds" "weakness" "[I") ∈ zW := zW_t (List.mem_of_getElem? (i := 402) (by decide +kernel)) rfl
theorem q403 : (Jvm.Cond.fieldLink "TraceMachines" (328 : Nat) "TraceMachines$Odds" "weakness" "[I") ∈ zW := zW_t (List.mem_of_getElem? (i := 403) (by decide +kernel)) rfl
theorem q404 : (Jvm.Cond.fieldLink "TraceMachines$Odds" (15 : Nat) "TraceMachines$Odds" "calls" "[I") ∈ zW := zW_t (List.mem_of_getElem? (i := 404) (by decide +kernel)) rfl
theorem q405 : (Jvm.Cond.fieldLink "TraceMachines" (331 : Nat) "TraceMachines$Odds" "calls" "[I") ∈ zW := zW_t (List.mem_of_getElem? (i := 405) (by decide +kernel)) rfl
theorem q406 : (Jvm.Cond.fieldLink "TraceMachines$Odds" (24 : Nat) "TraceMachines$Odds" "count" "I") ∈ zW := zW_t (List.mem_of_getElem? (i := 406) (by decide +kernel)) rfl
theorem q407 : (Jvm.Cond.laysFinal "TraceMachines$Odds" "TraceMachines$Odds" "weakness" "[I") ∈ zW := zW_t (List.mem_of_getElem? (i := 407) (by decide +kernel)) rfl
theorem q409 : (Jvm.Cond.laysFinal "TraceMachines$Odds" "TraceMachines$Odds" "calls" "[I") ∈ zW := zW_t (List.mem_of_getElem? (i := 409) (by decide +kernel)) rfl
theorem q411 : (Jvm.Cond.lays "TraceMachines$Odds" "TraceMachines$Odds" "count" "I") ∈ zW := zW_t (List.mem_of_getElem? (i := 411) (by decide +kernel)) rfl
theorem q414 : (Jvm.Cond.methodLink "TraceMachines" (112 : Nat) ({ cls := "java/util/Arrays", name := "fill", desc := "([II)V" } : Jvm.MethodName)) ∈ zW := zW_t (List.mem_of_getElem? (i := 414) (by decide +kernel)) rfl
theorem q415 : (Jvm.Cond.static ({ cls := "java/util/Arrays", name := "fill", desc := "([II)V" } : Jvm.MethodName)) ∈ zW := zW_t (List.mem_of_getElem? (i := 415) (by decide +kernel)) rfl
theorem q416 : (Jvm.Cond.code ({ cls := "java/util/Arrays", name := "fill", desc := "([II)V" } : Jvm.MethodName) prog_24_method_103_code (4 : Nat) (Option.none : Option Jvm.ClassFile.FieldType)) ∈ zW := zW_t (List.mem_of_getElem? (i := 416) (by decide +kernel)) rfl
theorem q417 : (Jvm.Cond.fieldLink "TraceMachines" (12 : Nat) "TraceMachines" "text" "LTraceMachines$Text;") ∈ zW := zW_t (List.mem_of_getElem? (i := 417) (by decide +kernel)) rfl
theorem q418 : (Jvm.Cond.fieldLink "TraceMachines" (19 : Nat) "TraceMachines" "now" "LTraceMachines$Traces;") ∈ zW := zW_t (List.mem_of_getElem? (i := 418) (by decide +kernel)) rfl
theorem q419 : (Jvm.Cond.fieldLink "TraceMachines" (23 : Nat) "TraceMachines" "read" "LTraceMachines$Traces;") ∈ zW := zW_t (List.mem_of_getElem? (i := 419) (by decide +kernel)) rfl
theorem q420 : (Jvm.Cond.fieldLink "TraceMachines" (26 : Nat) "TraceMachines" "past" "[LTraceMachines$Traces;") ∈ zW := zW_t (List.mem_of_getElem? (i := 420) (by decide +kernel)) rfl
theorem q421 : (Jvm.Cond.fieldLink "TraceMachines" (165 : Nat) "TraceMachines" "pastNext" "I") ∈ zW := zW_t (List.mem_of_getElem? (i := 421) (by decide +kernel)) rfl
theorem q422 : (Jvm.Cond.fieldLink "TraceMachines" (162 : Nat) "TraceMachines" "pastCount" "I") ∈ zW := zW_t (List.mem_of_getElem? (i := 422) (by decide +kernel)) rfl
theorem q423 : (Jvm.Cond.fieldLink "TraceMachines" (30 : Nat) "TraceMachines" "kept" "[LTraceMachines$Traces;") ∈ zW := zW_t (List.mem_of_getElem? (i := 423) (by decide +kernel)) rfl
theorem q424 : (Jvm.Cond.fieldLink "TraceMachines" (36 : Nat) "TraceMachines" "tree" "LTraceMachines$Tree;") ∈ zW := zW_t (List.mem_of_getElem? (i := 424) (by decide +kernel)) rfl
theorem q425 : (Jvm.Cond.fieldLink "TraceMachines" (43 : Nat) "TraceMachines" "follows" "LTraceMachines$Follows;") ∈ zW := zW_t (List.mem_of_getElem? (i := 425) (by decide +kernel)) rfl
theorem q426 : (Jvm.Cond.fieldLink "TraceMachines" (49 : Nat) "TraceMachines" "machines" "[LTraceMachines$Machine;") ∈ zW := zW_t (List.mem_of_getElem? (i := 426) (by decide +kernel)) rfl
theorem q427 : (Jvm.Cond.fieldLink "TraceMachines" (53 : Nat) "TraceMachines" "treeOfOthers" "LTraceMachines$Tree;") ∈ zW := zW_t (List.mem_of_getElem? (i := 427) (by decide +kernel)) rfl
theorem q428 : (Jvm.Cond.fieldLink "TraceMachines" (57 : Nat) "TraceMachines" "machineOfOthers" "LTraceMachines$Machine;") ∈ zW := zW_t (List.mem_of_getElem? (i := 428) (by decide +kernel)) rfl
theorem q429 : (Jvm.Cond.fieldLink "TraceMachines" (66 : Nat) "TraceMachines" "running" "LTraceMachines$StateSets;") ∈ zW := zW_t (List.mem_of_getElem? (i := 429) (by decide +kernel)) rfl
theorem q430 : (Jvm.Cond.fieldLink "TraceMachines" (70 : Nat) "TraceMachines" "ran" "[I") ∈ zW := zW_t (List.mem_of_getElem? (i := 430) (by decide +kernel)) rfl
theorem q431 : (Jvm.Cond.fieldLink "TraceMachines" (77 : Nat) "TraceMachines" "wordsFound" "LTraceMachines$Words;") ∈ zW := zW_t (List.mem_of_getElem? (i := 431) (by decide +kernel)) rfl
theorem q432 : (Jvm.Cond.fieldLink "TraceMachines" (84 : Nat) "TraceMachines" "parting" "LTraceMachines$Parting;") ∈ zW := zW_t (List.mem_of_getElem? (i := 432) (by decide +kernel)) rfl
theorem q433 : (Jvm.Cond.fieldLink "TraceMachines" (91 : Nat) "TraceMachines" "covering" "LTraceMachines$Cover;") ∈ zW := zW_t (List.mem_of_getElem? (i := 433) (by decide +kernel)) rfl
theorem q434 : (Jvm.Cond.fieldLink "TraceMachines" (98 : Nat) "TraceMachines" "pair" "LTraceMachines$Pair;") ∈ zW := zW_t (List.mem_of_getElem? (i := 434) (by decide +kernel)) rfl
theorem q435 : (Jvm.Cond.fieldLink "TraceMachines" (105 : Nat) "TraceMachines" "odds" "LTraceMachines$Odds;") ∈ zW := zW_t (List.mem_of_getElem? (i := 435) (by decide +kernel)) rfl
theorem q436 : (Jvm.Cond.fieldLink "TraceMachines" (109 : Nat) "TraceMachines" "fits" "[I") ∈ zW := zW_t (List.mem_of_getElem? (i := 436) (by decide +kernel)) rfl
theorem q437 : (Jvm.Cond.laysFinal "TraceMachines" "TraceMachines" "text" "LTraceMachines$Text;") ∈ zW := zW_t (List.mem_of_getElem? (i := 437) (by decide +kernel)) rfl
theorem q439 : (Jvm.Cond.laysFinal "TraceMachines" "TraceMachines" "now" "LTraceMachines$Traces;") ∈ zW := zW_t (List.mem_of_getElem? (i := 439) (by decide +kernel)) rfl
theorem q441 : (Jvm.Cond.laysFinal "TraceMachines" "TraceMachines" "read" "LTraceMachines$Traces;") ∈ zW := zW_t (List.mem_of_getElem? (i := 441) (by decide +kernel)) rfl
theorem q443 : (Jvm.Cond.laysFinal "TraceMachines" "TraceMachines" "past" "[LTraceMachines$Traces;") ∈ zW := zW_t (List.mem_of_getElem? (i := 443) (by decide +kernel)) rfl
theorem q445 : (Jvm.Cond.lays "TraceMachines" "TraceMachines" "pastNext" "I") ∈ zW := zW_t (List.mem_of_getElem? (i := 445) (by decide +kernel)) rfl
theorem q447 : (Jvm.Cond.lays "TraceMachines" "TraceMachines" "pastCount" "I") ∈ zW := zW_t (List.mem_of_getElem? (i := 447) (by decide +kernel)) rfl
theorem q449 : (Jvm.Cond.laysFinal "TraceMachines" "TraceMachines" "kept" "[LTraceMachines$Traces;") ∈ zW := zW_t (List.mem_of_getElem? (i := 449) (by decide +kernel)) rfl
theorem q451 : (Jvm.Cond.laysFinal "TraceMachines" "TraceMachines" "tree" "LTraceMachines$Tree;") ∈ zW := zW_t (List.mem_of_getElem? (i := 451) (by decide +kernel)) rfl
theorem q453 : (Jvm.Cond.laysFinal "TraceMachines" "TraceMachines" "follows" "LTraceMachines$Follows;") ∈ zW := zW_t (List.mem_of_getElem? (i := 453) (by decide +kernel)) rfl
theorem q455 : (Jvm.Cond.laysFinal "TraceMachines" "TraceMachines" "machines" "[LTraceMachines$Machine;") ∈ zW := zW_t (List.mem_of_getElem? (i := 455) (by decide +kernel)) rfl
theorem q457 : (Jvm.Cond.laysFinal "TraceMachines" "TraceMachines" "treeOfOthers" "LTraceMachines$Tree;") ∈ zW := zW_t (List.mem_of_getElem? (i := 457) (by decide +kernel)) rfl
theorem q459 : (Jvm.Cond.laysFinal "TraceMachines" "TraceMachines" "machineOfOthers" "LTraceMachines$Machine;") ∈ zW := zW_t (List.mem_of_getElem? (i := 459) (by decide +kernel)) rfl
theorem q461 : (Jvm.Cond.laysFinal "TraceMachines" "TraceMachines" "running" "LTraceMachines$StateSets;") ∈ zW := zW_t (List.mem_of_getElem? (i := 461) (by decide +kernel)) rfl
theorem q463 : (Jvm.Cond.laysFinal "TraceMachines" "TraceMachines" "ran" "[I") ∈ zW := zW_t (List.mem_of_getElem? (i := 463) (by decide +kernel)) rfl
theorem q465 : (Jvm.Cond.laysFinal "TraceMachines" "TraceMachines" "wordsFound" "LTraceMachines$Words;") ∈ zW := zW_t (List.mem_of_getElem? (i := 465) (by decide +kernel)) rfl
theorem q467 : (Jvm.Cond.laysFinal "TraceMachines" "TraceMachines" "parting" "LTraceMachines$Parting;") ∈ zW := zW_t (List.mem_of_getElem? (i := 467) (by decide +kernel)) rfl
theorem q469 : (Jvm.Cond.laysFinal "TraceMachines" "TraceMachines" "covering" "LTraceMachines$Cover;") ∈ zW := zW_t (List.mem_of_getElem? (i := 469) (by decide +kernel)) rfl
theorem q471 : (Jvm.Cond.laysFinal "TraceMachines" "TraceMachines" "pair" "LTraceMachines$Pair;") ∈ zW := zW_t (List.mem_of_getElem? (i := 471) (by decide +kernel)) rfl
theorem q473 : (Jvm.Cond.laysFinal "TraceMachines" "TraceMachines" "odds" "LTraceMachines$Odds;") ∈ zW := zW_t (List.mem_of_getElem? (i := 473) (by decide +kernel)) rfl
theorem q475 : (Jvm.Cond.laysFinal "TraceMachines" "TraceMachines" "fits" "[I") ∈ zW := zW_t (List.mem_of_getElem? (i := 475) (by decide +kernel)) rfl
theorem q478 : (Jvm.Cond.methodLink "TraceMachinesLaw" (19 : Nat) ({ cls := "TraceMachines", name := "sign", desc := "(I)I" } : Jvm.MethodName)) ∈ zW := zW_t (List.mem_of_getElem? (i := 478) (by decide +kernel)) rfl
theorem q479 : (Jvm.Cond.instanceMethod ({ cls := "TraceMachines", name := "sign", desc := "(I)I" } : Jvm.MethodName)) ∈ zW := zW_t (List.mem_of_getElem? (i := 479) (by decide +kernel)) rfl
theorem q480 : (Jvm.Cond.selects "TraceMachines" ({ cls := "TraceMachines", name := "sign", desc := "(I)I" } : Jvm.MethodName) ({ cls := "TraceMachines", name := "sign", desc := "(I)I" } : Jvm.MethodName)) ∈ zW := zW_t (List.mem_of_getElem? (i := 480) (by decide +kernel)) rfl
theorem q481 : (Jvm.Cond.code ({ cls := "TraceMachines", name := "sign", desc := "(I)I" } : Jvm.MethodName) prog_1_method_2_code (2 : Nat) (Option.some Jvm.ClassFile.FieldType.int)) ∈ zW := zW_t (List.mem_of_getElem? (i := 481) (by decide +kernel)) rfl
theorem q482 : (Jvm.Cond.methodLink "TraceMachines" (118 : Nat) ({ cls := "TraceMachines$Text", name := "put", desc := "(I)Z" } : Jvm.MethodName)) ∈ zW := zW_t (List.mem_of_getElem? (i := 482) (by decide +kernel)) rfl
theorem q483 : (Jvm.Cond.instanceMethod ({ cls := "TraceMachines$Text", name := "put", desc := "(I)Z" } : Jvm.MethodName)) ∈ zW := zW_t (List.mem_of_getElem? (i := 483) (by decide +kernel)) rfl
theorem q484 : (Jvm.Cond.selects "TraceMachines$Text" ({ cls := "TraceMachines$Text", name := "put", desc := "(I)Z" } : Jvm.MethodName) ({ cls := "TraceMachines$Text", name := "put", desc := "(I)Z" } : Jvm.MethodName)) ∈ zW := zW_t (List.mem_of_getElem? (i := 484) (by decide +kernel)) rfl
theorem q485 : (Jvm.Cond.code ({ cls := "TraceMachines$Text", name := "put", desc := "(I)Z" } : Jvm.MethodName) prog_9_method_2_code (3 : Nat) (Option.some Jvm.ClassFile.FieldType.boolean)) ∈ zW := zW_t (List.mem_of_getElem? (i := 485) (by decide +kernel)) rfl
theorem q486 : (Jvm.Cond.methodLink "TraceMachinesLaw" (24 : Nat) ({ cls := "TraceMachines", name := "end", desc := "(I)Z" } : Jvm.MethodName)) ∈ zW := zW_t (List.mem_of_getElem? (i := 486) (by decide +kernel)) rfl
theorem q487 : (Jvm.Cond.instanceMethod ({ cls := "TraceMachines", name := "end", desc := "(I)Z" } : Jvm.MethodName)) ∈ zW := zW_t (List.mem_of_getElem? (i := 487) (by decide +kernel)) rfl
theorem q488 : (Jvm.Cond.selects "TraceMachines" ({ cls := "TraceMachines", name := "end", desc := "(I)Z" } : Jvm.MethodName) ({ cls := "TraceMachines", name := "end", desc := "(I)Z" } : Jvm.MethodName)) ∈ zW := zW_t (List.mem_of_getElem? (i := 488) (by decide +kernel)) rfl
theorem q489 : (Jvm.Cond.code ({ cls := "TraceMachines", name := "end", desc := "(I)Z" } : Jvm.MethodName) prog_1_method_3_code (2 : Nat) (Option.some Jvm.ClassFile.FieldType.boolean)) ∈ zW := zW_t (List.mem_of_getElem? (i := 489) (by decide +kernel)) rfl
theorem q490 : (Jvm.Cond.methodLink "TraceMachines" (126 : Nat) ({ cls := "TraceMachines$Text", name := "cut", desc := "(I)Z" } : Jvm.MethodName)) ∈ zW := zW_t (List.mem_of_getElem? (i := 490) (by decide +kernel)) rfl
theorem q491 : (Jvm.Cond.instanceMethod ({ cls := "TraceMachines$Text", name := "cut", desc := "(I)Z" } : Jvm.MethodName)) ∈ zW := zW_t (List.mem_of_getElem? (i := 491) (by decide +kernel)) rfl
theorem q492 : (Jvm.Cond.selects "TraceMachines$Text" ({ cls := "TraceMachines$Text", name := "cut", desc := "(I)Z" } : Jvm.MethodName) ({ cls := "TraceMachines$Text", name := "cut", desc := "(I)Z" } : Jvm.MethodName)) ∈ zW := zW_t (List.mem_of_getElem? (i := 492) (by decide +kernel)) rfl
theorem q493 : (Jvm.Cond.code ({ cls := "TraceMachines$Text", name := "cut", desc := "(I)Z" } : Jvm.MethodName) prog_9_method_3_code (2 : Nat) (Option.some Jvm.ClassFile.FieldType.boolean)) ∈ zW := zW_t (List.mem_of_getElem? (i := 493) (by decide +kernel)) rfl
theorem q494 : (Jvm.Cond.methodLink "TraceMachinesLaw" (29 : Nat) ({ cls := "TraceMachines", name := "traces", desc := "()I" } : Jvm.MethodName)) ∈ zW := zW_t (List.mem_of_getElem? (i := 494) (by decide +kernel)) rfl
theorem q495 : (Jvm.Cond.instanceMethod ({ cls := "TraceMachines", name := "traces", desc := "()I" } : Jvm.MethodName)) ∈ zW := zW_t (List.mem_of_getElem? (i := 495) (by decide +kernel)) rfl
theorem q496 : (Jvm.Cond.selects "TraceMachines" ({ cls := "TraceMachines", name := "traces", desc := "()I" } : Jvm.MethodName) ({ cls := "TraceMachines", name := "traces", desc := "()I" } : Jvm.MethodName)) ∈ zW := zW_t (List.mem_of_getElem? (i := 496) (by decide +kernel)) rfl
theorem q497 : (Jvm.Cond.code ({ cls := "TraceMachines", name := "traces", desc := "()I" } : Jvm.MethodName) prog_1_method_4_code (2 : Nat) (Option.some Jvm.ClassFile.FieldType.int)) ∈ zW := zW_t (List.mem_of_getElem? (i := 497) (by decide +kernel)) rfl
theorem q498 : (Jvm.Cond.methodLink "TraceMachines" (129 : Nat) ({ cls := "TraceMachines$Traces", name := "copyFrom", desc := "(LTraceMachines$Traces;)V" } : Jvm.MethodName)) ∈ zW := zW_t (List.mem_of_getElem? (i := 498) (by decide +kernel)) rfl
theorem q499 : (Jvm.Cond.instanceMethod ({ cls := "TraceMachines$Traces", name := "copyFrom", desc := "(LTraceMachines$Traces;)V" } : Jvm.MethodName)) ∈ zW := zW_t (List.mem_of_getElem? (i := 499) (by decide +kernel)) rfl
theorem q500 : (Jvm.Cond.selects "TraceMachines$Traces" ({ cls := "TraceMachines$Traces", name := "copyFrom", desc := "(LTraceMachines$Traces;)V" } : Jvm.MethodName) ({ cls := "TraceMachines$Traces", name := "copyFrom", desc := "(LTraceMachines$Traces;)V" } : Jvm.MethodName)) ∈ zW := zW_t (List.mem_of_getElem? (i := 500) (by decide +kernel)) rfl
theorem q501 : (Jvm.Cond.code ({ cls := "TraceMachines$Traces", name := "copyFrom", desc := "(LTraceMachines$Traces;)V" } : Jvm.MethodName) prog_10_method_2_code (2 : Nat) (Option.none : Option Jvm.ClassFile.FieldType)) ∈ zW := zW_t (List.mem_of_getElem? (i := 501) (by decide +kernel)) rfl
theorem q502 : (Jvm.Cond.methodLink "TraceMachines$Traces" (31 : Nat) ({ cls := "java/lang/System", name := "arraycopy", desc := "(Ljava/lang/Object;ILjava/lang/Object;II)V" } : Jvm.MethodName)) ∈ zW := zW_t (List.mem_of_getElem? (i := 502) (by decide +kernel)) rfl
theorem q503 : (Jvm.Cond.static ({ cls := "java/lang/System", name := "arraycopy", desc := "(Ljava/lang/Object;ILjava/lang/Object;II)V" } : Jvm.MethodName)) ∈ zW := zW_t (List.mem_of_getElem? (i := 503) (by decide +kernel)) rfl
theorem q504 : (Jvm.Cond.native ({ cls := "java/lang/System", name := "arraycopy", desc := "(Ljava/lang/Object;ILjava/lang/Object;II)V" } : Jvm.MethodName)) ∈ zW := zW_t (List.mem_of_getElem? (i := 504) (by decide +kernel)) rfl
theorem q505 : (Jvm.Cond.methodLink "TraceMachines" (133 : Nat) ({ cls := "TraceMachines$Text", name := "parse", desc := "(LTraceMachines$Traces;Z)I" } : Jvm.MethodName)) ∈ zW := zW_t (List.mem_of_getElem? (i := 505) (by decide +kernel)) rfl
theorem q506 : (Jvm.Cond.instanceMethod ({ cls := "TraceMachines$Text", name := "parse", desc := "(LTraceMachines$Traces;Z)I" } : Jvm.MethodName)) ∈ zW := zW_t (List.mem_of_getElem? (i := 506) (by decide +kernel)) rfl
theorem q507 : (Jvm.Cond.selects "TraceMachines$Text" ({ cls := "TraceMachines$Text", name := "parse", desc := "(LTraceMachines$Traces;Z)I" } : Jvm.MethodName) ({ cls := "TraceMachines$Text", name := "parse", desc := "(LTraceMachines$Traces;Z)I" } : Jvm.MethodName)) ∈ zW := zW_t (List.mem_of_getElem? (i := 507) (by decide +kernel)) rfl
theorem q508 : (Jvm.Cond.code ({ cls := "TraceMachines$Text", name := "parse", desc := "(LTraceMachines$Traces;Z)I" } : Jvm.MethodName) prog_9_method_4_code (7 : Nat) (Option.some Jvm.ClassFile.FieldType.int)) ∈ zW := zW_t (List.mem_of_getElem? (i := 508) (by decide +kernel)) rfl
theorem q509 : (Jvm.Cond.methodLink "TraceMachines$Text" (19 : Nat) ({ cls := "TraceMachines$Traces", name := "addDigit", desc := "(I)V" } : Jvm.MethodName)) ∈ zW := zW_t (List.mem_of_getElem? (i := 509) (by decide +kernel)) rfl
theorem q510 : (Jvm.Cond.instanceMethod ({ cls := "TraceMachines$Traces", name := "addDigit", desc := "(I)V" } : Jvm.MethodName)) ∈ zW := zW_t (List.mem_of_getElem? (i := 510) (by decide +kernel)) rfl
theorem q511 : (Jvm.Cond.selects "TraceMachines$Traces" ({ cls := "TraceMachines$Traces", name := "addDigit", desc := "(I)V" } : Jvm.MethodName) ({ cls := "TraceMachines$Traces", name := "addDigit", desc := "(I)V" } : Jvm.MethodName)) ∈ zW := zW_t (List.mem_of_getElem? (i := 511) (by decide +kernel)) rfl
theorem q512 : (Jvm.Cond.code ({ cls := "TraceMachines$Traces", name := "addDigit", desc := "(I)V" } : Jvm.MethodName) prog_10_method_9_code (4 : Nat) (Option.none : Option Jvm.ClassFile.FieldType)) ∈ zW := zW_t (List.mem_of_getElem? (i := 512) (by decide +kernel)) rfl
theorem q513 : (Jvm.Cond.methodLink "TraceMachines$Text" (25 : Nat) ({ cls := "TraceMachines$Traces", name := "open", desc := "()Z" } : Jvm.MethodName)) ∈ zW := zW_t (List.mem_of_getElem? (i := 513) (by decide +kernel)) rfl
theorem q514 : (Jvm.Cond.instanceMethod ({ cls := "TraceMachines$Traces", name := "open", desc := "()Z" } : Jvm.MethodName)) ∈ zW := zW_t (List.mem_of_getElem? (i := 514) (by decide +kernel)) rfl
theorem q515 : (Jvm.Cond.selects "TraceMachines$Traces" ({ cls := "TraceMachines$Traces", name := "open", desc := "()Z" } : Jvm.MethodName) ({ cls := "TraceMachines$Traces", name := "open", desc := "()Z" } : Jvm.MethodName)) ∈ zW := zW_t (List.mem_of_getElem? (i := 515) (by decide +kernel)) rfl
theorem q516 : (Jvm.Cond.code ({ cls := "TraceMachines$Traces", name := "open", desc := "()Z" } : Jvm.MethodName) prog_10_method_7_code (1 : Nat) (Option.some Jvm.ClassFile.FieldType.boolean)) ∈ zW := zW_t (List.mem_of_getElem? (i := 516) (by decide +kernel)) rfl
theorem q518 : (Jvm.Cond.static ({ cls := "TraceMachines", name := "isLetter", desc := "(I)Z" } : Jvm.MethodName)) ∈ zW := zW_t (List.mem_of_getElem? (i := 518) (by decide +kernel)) rfl
theorem q519 : (Jvm.Cond.code ({ cls := "TraceMachines", name := "isLetter", desc := "(I)Z" } : Jvm.MethodName) prog_1_method_32_code (1 : Nat) (Option.some Jvm.ClassFile.FieldType.boolean)) ∈ zW := zW_t (List.mem_of_getElem? (i := 519) (by decide +kernel)) rfl
theorem q520 : (Jvm.Cond.methodLink "TraceMachines$Text" (33 : Nat) ({ cls := "TraceMachines$Traces", name := "add", desc := "(I)Z" } : Jvm.MethodName)) ∈ zW := zW_t (List.mem_of_getElem? (i := 520) (by decide +kernel)) rfl
theorem q521 : (Jvm.Cond.instanceMethod ({ cls := "TraceMachines$Traces", name := "add", desc := "(I)Z" } : Jvm.MethodName)) ∈ zW := zW_t (List.mem_of_getElem? (i := 521) (by decide +kernel)) rfl
theorem q522 : (Jvm.Cond.selects "TraceMachines$Traces" ({ cls := "TraceMachines$Traces", name := "add", desc := "(I)Z" } : Jvm.MethodName) ({ cls := "TraceMachines$Traces", name := "add", desc := "(I)Z" } : Jvm.MethodName)) ∈ zW := zW_t (List.mem_of_getElem? (i := 522) (by decide +kernel)) rfl
theorem q523 : (Jvm.Cond.code ({ cls := "TraceMachines$Traces", name := "add", desc := "(I)Z" } : Jvm.MethodName) prog_10_method_8_code (4 : Nat) (Option.some Jvm.ClassFile.FieldType.boolean)) ∈ zW := zW_t (List.mem_of_getElem? (i := 523) (by decide +kernel)) rfl
theorem q524 : (Jvm.Cond.methodLink "TraceMachines" (137 : Nat) ({ cls := "TraceMachines", name := "remember", desc := "()V" } : Jvm.MethodName)) ∈ zW := zW_t (List.mem_of_getElem? (i := 524) (by decide +kernel)) rfl
theorem q526 : (Jvm.Cond.instanceMethod ({ cls := "TraceMachines", name := "remember", desc := "()V" } : Jvm.MethodName)) ∈ zW := zW_t (List.mem_of_getElem? (i := 526) (by decide +kernel)) rfl
theorem q527 : (Jvm.Cond.code ({ cls := "TraceMachines", name := "remember", desc := "()V" } : Jvm.MethodName) prog_1_method_35_code (1 : Nat) (Option.none : Option Jvm.ClassFile.FieldType)) ∈ zW := zW_t (List.mem_of_getElem? (i := 527) (by decide +kernel)) rfl
theorem q528 : (Jvm.Cond.methodLink "TraceMachines" (140 : Nat) ({ cls := "TraceMachines", name := "forgetFound", desc := "()V" } : Jvm.MethodName)) ∈ zW := zW_t (List.mem_of_getElem? (i := 528) (by decide +kernel)) rfl
theorem q530 : (Jvm.Cond.instanceMethod ({ cls := "TraceMachines", name := "forgetFound", desc := "()V" } : Jvm.MethodName)) ∈ zW := zW_t (List.mem_of_getElem? (i := 530) (by decide +kernel)) rfl
theorem q531 : (Jvm.Cond.code ({ cls := "TraceMachines", name := "forgetFound", desc := "()V" } : Jvm.MethodName) prog_1_method_36_code (2 : Nat) (Option.none : Option Jvm.ClassFile.FieldType)) ∈ zW := zW_t (List.mem_of_getElem? (i := 531) (by decide +kernel)) rfl
theorem q532 : (Jvm.Cond.methodLink "TraceMachinesLaw" (34 : Nat) ({ cls := "TraceMachines", name := "drop", desc := "(I)I" } : Jvm.MethodName)) ∈ zW := zW_t (List.mem_of_getElem? (i := 532) (by decide +kernel)) rfl
theorem q533 : (Jvm.Cond.instanceMethod ({ cls := "TraceMachines", name := "drop", desc := "(I)I" } : Jvm.MethodName)) ∈ zW := zW_t (List.mem_of_getElem? (i := 533) (by decide +kernel)) rfl
theorem q534 : (Jvm.Cond.selects "TraceMachines" ({ cls := "TraceMachines", name := "drop", desc := "(I)I" } : Jvm.MethodName) ({ cls := "TraceMachines", name := "drop", desc := "(I)I" } : Jvm.MethodName)) ∈ zW := zW_t (List.mem_of_getElem? (i := 534) (by decide +kernel)) rfl
theorem q535 : (Jvm.Cond.code ({ cls := "TraceMachines", name := "drop", desc := "(I)I" } : Jvm.MethodName) prog_1_method_5_code (2 : Nat) (Option.some Jvm.ClassFile.FieldType.int)) ∈ zW := zW_t (List.mem_of_getElem? (i := 535) (by decide +kernel)) rfl
theorem q536 : (Jvm.Cond.methodLink "TraceMachines" (146 : Nat) ({ cls := "TraceMachines$Traces", name := "has", desc := "(I)Z" } : Jvm.MethodName)) ∈ zW := zW_t (List.mem_of_getElem? (i := 536) (by decide +kernel)) rfl
theorem q537 : (Jvm.Cond.instanceMethod ({ cls := "TraceMachines$Traces", name := "has", desc := "(I)Z" } : Jvm.MethodName)) ∈ zW := zW_t (List.mem_of_getElem? (i := 537) (by decide +kernel)) rfl
theorem q538 : (Jvm.Cond.selects "TraceMachines$Traces" ({ cls := "TraceMachines$Traces", name := "has", desc := "(I)Z" } : Jvm.MethodName) ({ cls := "TraceMachines$Traces", name := "has", desc := "(I)Z" } : Jvm.MethodName)) ∈ zW := zW_t (List.mem_of_getElem? (i := 538) (by decide +kernel)) rfl
theorem q539 : (Jvm.Cond.code ({ cls := "TraceMachines$Traces", name := "has", desc := "(I)Z" } : Jvm.MethodName) prog_10_method_3_code (2 : Nat) (Option.some Jvm.ClassFile.FieldType.boolean)) ∈ zW := zW_t (List.mem_of_getElem? (i := 539) (by decide +kernel)) rfl
theorem q540 : (Jvm.Cond.methodLink "TraceMachines" (149 : Nat) ({ cls := "TraceMachines$Traces", name := "remove", desc := "(I)V" } : Jvm.MethodName)) ∈ zW := zW_t (List.mem_of_getElem? (i := 540) (by decide +kernel)) rfl
theorem q541 : (Jvm.Cond.instanceMethod ({ cls := "TraceMachines$Traces", name := "remove", desc := "(I)V" } : Jvm.MethodName)) ∈ zW := zW_t (List.mem_of_getElem? (i := 541) (by decide +kernel)) rfl
theorem q542 : (Jvm.Cond.selects "TraceMachines$Traces" ({ cls := "TraceMachines$Traces", name := "remove", desc := "(I)V" } : Jvm.MethodName) ({ cls := "TraceMachines$Traces", name := "remove", desc := "(I)V" } : Jvm.MethodName)) ∈ zW := zW_t (List.mem_of_getElem? (i := 542) (by decide +kernel)) rfl
theorem q543 : (Jvm.Cond.code ({ cls := "TraceMachines$Traces", name := "remove", desc := "(I)V" } : Jvm.MethodName) prog_10_method_10_code (4 : Nat) (Option.none : Option Jvm.ClassFile.FieldType)) ∈ zW := zW_t (List.mem_of_getElem? (i := 543) (by decide +kernel)) rfl
theorem q544 : (Jvm.Cond.methodLink "TraceMachinesLaw" (38 : Nat) ({ cls := "TraceMachines", name := "depth", desc := "(I)I" } : Jvm.MethodName)) ∈ zW := zW_t (List.mem_of_getElem? (i := 544) (by decide +kernel)) rfl
theorem q545 : (Jvm.Cond.instanceMethod ({ cls := "TraceMachines", name := "depth", desc := "(I)I" } : Jvm.MethodName)) ∈ zW := zW_t (List.mem_of_getElem? (i := 545) (by decide +kernel)) rfl
theorem q546 : (Jvm.Cond.selects "TraceMachines" ({ cls := "TraceMachines", name := "depth", desc := "(I)I" } : Jvm.MethodName) ({ cls := "TraceMachines", name := "depth", desc := "(I)I" } : Jvm.MethodName)) ∈ zW := zW_t (List.mem_of_getElem? (i := 546) (by decide +kernel)) rfl
theorem q547 : (Jvm.Cond.code ({ cls := "TraceMachines", name := "depth", desc := "(I)I" } : Jvm.MethodName) prog_1_method_6_code (3 : Nat) (Option.some Jvm.ClassFile.FieldType.int)) ∈ zW := zW_t (List.mem_of_getElem? (i := 547) (by decide +kernel)) rfl
theorem q548 : (Jvm.Cond.methodLink "TraceMachines" (153 : Nat) ({ cls := "TraceMachines", name := "isDepth", desc := "(I)Z" } : Jvm.MethodName)) ∈ zW := zW_t (List.mem_of_getElem? (i := 548) (by decide +kernel)) rfl
theorem q549 : (Jvm.Cond.static ({ cls := "TraceMachines", name := "isDepth", desc := "(I)Z" } : Jvm.MethodName)) ∈ zW := zW_t (List.mem_of_getElem? (i := 549) (by decide +kernel)) rfl
theorem q550 : (Jvm.Cond.code ({ cls := "TraceMachines", name := "isDepth", desc := "(I)Z" } : Jvm.MethodName) prog_1_method_30_code (1 : Nat) (Option.some Jvm.ClassFile.FieldType.boolean)) ∈ zW := zW_t (List.mem_of_getElem? (i := 550) (by decide +kernel)) rfl
theorem q551 : (Jvm.Cond.methodLink "TraceMachinesLaw" (42 : Nat) ({ cls := "TraceMachines", name := "margin", desc := "(I)I" } : Jvm.MethodName)) ∈ zW := zW_t (List.mem_of_getElem? (i := 551) (by decide +kernel)) rfl
theorem q552 : (Jvm.Cond.instanceMethod ({ cls := "TraceMachines", name := "margin", desc := "(I)I" } : Jvm.MethodName)) ∈ zW := zW_t (List.mem_of_getElem? (i := 552) (by decide +kernel)) rfl
theorem q553 : (Jvm.Cond.selects "TraceMachines" ({ cls := "TraceMachines", name := "margin", desc := "(I)I" } : Jvm.MethodName) ({ cls := "TraceMachines", name := "margin", desc := "(I)I" } : Jvm.MethodName)) ∈ zW := zW_t (List.mem_of_getElem? (i := 553) (by decide +kernel)) rfl
theorem q554 : (Jvm.Cond.code ({ cls := "TraceMachines", name := "margin", desc := "(I)I" } : Jvm.MethodName) prog_1_method_7_code (3 : Nat) (Option.some Jvm.ClassFile.FieldType.int)) ∈ zW := zW_t (List.mem_of_getElem? (i := 554) (by decide +kernel)) rfl
theorem q555 : (Jvm.Cond.methodLink "TraceMachinesLaw" (46 : Nat) ({ cls := "TraceMachines", name := "undo", desc := "()I" } : Jvm.MethodName)) ∈ zW := zW_t (List.mem_of_getElem? (i := 555) (by decide +kernel)) rfl
theorem q556 : (Jvm.Cond.instanceMethod ({ cls := "TraceMachines", name := "undo", desc := "()I" } : Jvm.MethodName)) ∈ zW := zW_t (List.mem_of_getElem? (i := 556) (by decide +kernel)) rfl
theorem q557 : (Jvm.Cond.selects "TraceMachines" ({ cls := "TraceMachines", name := "undo", desc := "()I" } : Jvm.MethodName) ({ cls := "TraceMachines", name := "undo", desc := "()I" } : Jvm.MethodName)) ∈ zW := zW_t (List.mem_of_getElem? (i := 557) (by decide +kernel)) rfl
theorem q558 : (Jvm.Cond.code ({ cls := "TraceMachines", name := "undo", desc := "()I" } : Jvm.MethodName) prog_1_method_8_code (1 : Nat) (Option.some Jvm.ClassFile.FieldType.int)) ∈ zW := zW_t (List.mem_of_getElem? (i := 558) (by decide +kernel)) rfl
theorem q559 : (Jvm.Cond.methodLink "TraceMachinesLaw" (59 : Nat) ({ cls := "TraceMachines", name := "state", desc := "(II)I" } : Jvm.MethodName)) ∈ zW := zW_t (List.mem_of_getElem? (i := 559) (by decide +kernel)) rfl
theorem q560 : (Jvm.Cond.instanceMethod ({ cls := "TraceMachines", name := "state", desc := "(II)I" } : Jvm.MethodName)) ∈ zW := zW_t (List.mem_of_getElem? (i := 560) (by decide +kernel)) rfl
theorem q561 : (Jvm.Cond.selects "TraceMachines" ({ cls := "TraceMachines", name := "state", desc := "(II)I" } : Jvm.MethodName) ({ cls := "TraceMachines", name := "state", desc := "(II)I" } : Jvm.MethodName)) ∈ zW := zW_t (List.mem_of_getElem? (i := 561) (by decide +kernel)) rfl
theorem q562 : (Jvm.Cond.code ({ cls := "TraceMachines", name := "state", desc := "(II)I" } : Jvm.MethodName) prog_1_method_10_code (4 : Nat) (Option.some Jvm.ClassFile.FieldType.int)) ∈ zW := zW_t (List.mem_of_getElem? (i := 562) (by decide +kernel)) rfl
theorem q563 : (Jvm.Cond.methodLink "TraceMachines" (189 : Nat) ({ cls := "TraceMachines", name := "machine", desc := "(I)LTraceMachines$Machine;" } : Jvm.MethodName)) ∈ zW := zW_t (List.mem_of_getElem? (i := 563) (by decide +kernel)) rfl
theorem q565 : (Jvm.Cond.instanceMethod ({ cls := "TraceMachines", name := "machine", desc := "(I)LTraceMachines$Machine;" } : Jvm.MethodName)) ∈ zW := zW_t (List.mem_of_getElem? (i := 565) (by decide +kernel)) rfl
theorem q566 : (Jvm.Cond.code ({ cls := "TraceMachines", name := "machine", desc := "(I)LTraceMachines$Machine;" } : Jvm.MethodName) prog_1_method_37_code (3 : Nat) (Option.some (Jvm.ClassFile.FieldType.object "TraceMachines$Machine"))) ∈ zW := zW_t (List.mem_of_getElem? (i := 566) (by decide +kernel)) rfl
theorem q567 : (Jvm.Cond.methodLink "TraceMachines" (360 : Nat) ({ cls := "TraceMachines$Tree", name := "grow", desc := "(LTraceMachines$Traces;I)V" } : Jvm.MethodName)) ∈ zW := zW_t (List.mem_of_getElem? (i := 567) (by decide +kernel)) rfl
theorem q568 : (Jvm.Cond.instanceMethod ({ cls := "TraceMachines$Tree", name := "grow", desc := "(LTraceMachines$Traces;I)V" } : Jvm.MethodName)) ∈ zW := zW_t (List.mem_of_getElem? (i := 568) (by decide +kernel)) rfl
theorem q569 : (Jvm.Cond.selects "TraceMachines$Tree" ({ cls := "TraceMachines$Tree", name := "grow", desc := "(LTraceMachines$Traces;I)V" } : Jvm.MethodName) ({ cls := "TraceMachines$Tree", name := "grow", desc := "(LTraceMachines$Traces;I)V" } : Jvm.MethodName)) ∈ zW := zW_t (List.mem_of_getElem? (i := 569) (by decide +kernel)) rfl
theorem q570 : (Jvm.Cond.code ({ cls := "TraceMachines$Tree", name := "grow", desc := "(LTraceMachines$Traces;I)V" } : Jvm.MethodName) prog_11_method_3_code (4 : Nat) (Option.none : Option Jvm.ClassFile.FieldType)) ∈ zW := zW_t (List.mem_of_getElem? (i := 570) (by decide +kernel)) rfl
theorem q571 : (Jvm.Cond.methodLink "TraceMachines$Tree" (52 : Nat) ({ cls := "TraceMachines$Tree", name := "follow", desc := "(LTraceMachines$Traces;I)V" } : Jvm.MethodName)) ∈ zW := zW_t (List.mem_of_getElem? (i := 571) (by decide +kernel)) rfl
theorem q573 : (Jvm.Cond.instanceMethod ({ cls := "TraceMachines$Tree", name := "follow", desc := "(LTraceMachines$Traces;I)V" } : Jvm.MethodName)) ∈ zW := zW_t (List.mem_of_getElem? (i := 573) (by decide +kernel)) rfl
theorem q574 : (Jvm.Cond.code ({ cls := "TraceMachines$Tree", name := "follow", desc := "(LTraceMachines$Traces;I)V" } : Jvm.MethodName) prog_11_method_4_code (7 : Nat) (Option.none : Option Jvm.ClassFile.FieldType)) ∈ zW := zW_t (List.mem_of_getElem? (i := 574) (by decide +kernel)) rfl
theorem q575 : (Jvm.Cond.methodLink "TraceMachines$Tree" (56 : Nat) ({ cls := "TraceMachines$Tree", name := "addPrefix", desc := "(II)I" } : Jvm.MethodName)) ∈ zW := zW_t (List.mem_of_getElem? (i := 575) (by decide +kernel)) rfl
theorem q577 : (Jvm.Cond.instanceMethod ({ cls := "TraceMachines$Tree", name := "addPrefix", desc := "(II)I" } : Jvm.MethodName)) ∈ zW := zW_t (List.mem_of_getElem? (i := 577) (by decide +kernel)) rfl
theorem q578 : (Jvm.Cond.code ({ cls := "TraceMachines$Tree", name := "addPrefix", desc := "(II)I" } : Jvm.MethodName) prog_11_method_6_code (5 : Nat) (Option.some Jvm.ClassFile.FieldType.int)) ∈ zW := zW_t (List.mem_of_getElem? (i := 578) (by decide +kernel)) rfl
theorem q579 : (Jvm.Cond.methodLink "TraceMachines$Tree" (63 : Nat) ({ cls := "TraceMachines$Traces", name := "letterAt", desc := "(II)I" } : Jvm.MethodName)) ∈ zW := zW_t (List.mem_of_getElem? (i := 579) (by decide +kernel)) rfl
theorem q580 : (Jvm.Cond.instanceMethod ({ cls := "TraceMachines$Traces", name := "letterAt", desc := "(II)I" } : Jvm.MethodName)) ∈ zW := zW_t (List.mem_of_getElem? (i := 580) (by decide +kernel)) rfl
theorem q581 : (Jvm.Cond.selects "TraceMachines$Traces" ({ cls := "TraceMachines$Traces", name := "letterAt", desc := "(II)I" } : Jvm.MethodName) ({ cls := "TraceMachines$Traces", name := "letterAt", desc := "(II)I" } : Jvm.MethodName)) ∈ zW := zW_t (List.mem_of_getElem? (i := 581) (by decide +kernel)) rfl
theorem q582 : (Jvm.Cond.code ({ cls := "TraceMachines$Traces", name := "letterAt", desc := "(II)I" } : Jvm.MethodName) prog_10_method_4_code (3 : Nat) (Option.some Jvm.ClassFile.FieldType.int)) ∈ zW := zW_t (List.mem_of_getElem? (i := 582) (by decide +kernel)) rfl
theorem q583 : (Jvm.Cond.methodLink "TraceMachines$Tree" (66 : Nat) ({ cls := "TraceMachines$Tree", name := "stepFrom", desc := "(II)I" } : Jvm.MethodName)) ∈ zW := zW_t (List.mem_of_getElem? (i := 583) (by decide +kernel)) rfl
theorem q585 : (Jvm.Cond.instanceMethod ({ cls := "TraceMachines$Tree", name := "stepFrom", desc := "(II)I" } : Jvm.MethodName)) ∈ zW := zW_t (List.mem_of_getElem? (i := 585) (by decide +kernel)) rfl
theorem q586 : (Jvm.Cond.code ({ cls := "TraceMachines$Tree", name := "stepFrom", desc := "(II)I" } : Jvm.MethodName) prog_11_method_5_code (4 : Nat) (Option.some Jvm.ClassFile.FieldType.int)) ∈ zW := zW_t (List.mem_of_getElem? (i := 586) (by decide +kernel)) rfl
theorem q587 : (Jvm.Cond.methodLink "TraceMachines$Tree" (69 : Nat) ({ cls := "TraceMachines$Traces", name := "valueAt", desc := "(II)I" } : Jvm.MethodName)) ∈ zW := zW_t (List.mem_of_getElem? (i := 587) (by decide +kernel)) rfl
theorem q588 : (Jvm.Cond.instanceMethod ({ cls := "TraceMachines$Traces", name := "valueAt", desc := "(II)I" } : Jvm.MethodName)) ∈ zW := zW_t (List.mem_of_getElem? (i := 588) (by decide +kernel)) rfl
theorem q589 : (Jvm.Cond.selects "TraceMachines$Traces" ({ cls := "TraceMachines$Traces", name := "valueAt", desc := "(II)I" } : Jvm.MethodName) ({ cls := "TraceMachines$Traces", name := "valueAt", desc := "(II)I" } : Jvm.MethodName)) ∈ zW := zW_t (List.mem_of_getElem? (i := 589) (by decide +kernel)) rfl
theorem q590 : (Jvm.Cond.code ({ cls := "TraceMachines$Traces", name := "valueAt", desc := "(II)I" } : Jvm.MethodName) prog_10_method_5_code (3 : Nat) (Option.some Jvm.ClassFile.FieldType.int)) ∈ zW := zW_t (List.mem_of_getElem? (i := 590) (by decide +kernel)) rfl
theorem q591 : (Jvm.Cond.methodLink "TraceMachines$Tree" (72 : Nat) ({ cls := "java/lang/Math", name := "min", desc := "(II)I" } : Jvm.MethodName)) ∈ zW := zW_t (List.mem_of_getElem? (i := 591) (by decide +kernel)) rfl
theorem q592 : (Jvm.Cond.static ({ cls := "java/lang/Math", name := "min", desc := "(II)I" } : Jvm.MethodName)) ∈ zW := zW_t (List.mem_of_getElem? (i := 592) (by decide +kernel)) rfl
theorem q593 : (Jvm.Cond.code ({ cls := "java/lang/Math", name := "min", desc := "(II)I" } : Jvm.MethodName) prog_19_method_69_code (2 : Nat) (Option.some Jvm.ClassFile.FieldType.int)) ∈ zW := zW_t (List.mem_of_getElem? (i := 593) (by decide +kernel)) rfl
theorem q594 : (Jvm.Cond.methodLink "TraceMachines$Tree" (77 : Nat) ({ cls := "java/lang/Math", name := "max", desc := "(II)I" } : Jvm.MethodName)) ∈ zW := zW_t (List.mem_of_getElem? (i := 594) (by decide +kernel)) rfl
theorem q595 : (Jvm.Cond.static ({ cls := "java/lang/Math", name := "max", desc := "(II)I" } : Jvm.MethodName)) ∈ zW := zW_t (List.mem_of_getElem? (i := 595) (by decide +kernel)) rfl
theorem q596 : (Jvm.Cond.code ({ cls := "java/lang/Math", name := "max", desc := "(II)I" } : Jvm.MethodName) prog_19_method_65_code (2 : Nat) (Option.some Jvm.ClassFile.FieldType.int)) ∈ zW := zW_t (List.mem_of_getElem? (i := 596) (by decide +kernel)) rfl
theorem q597 : (Jvm.Cond.methodLink "TraceMachines" (364 : Nat) ({ cls := "TraceMachines$Machine", name := "fold", desc := "(LTraceMachines$Traces;LTraceMachines$Tree;LTraceMachines$Follows;I)V" } : Jvm.MethodName)) ∈ zW := zW_t (List.mem_of_getElem? (i := 597) (by decide +kernel)) rfl
theorem q598 : (Jvm.Cond.instanceMethod ({ cls := "TraceMachines$Machine", name := "fold", desc := "(LTraceMachines$Traces;LTraceMachines$Tree;LTraceMachines$Follows;I)V" } : Jvm.MethodName)) ∈ zW := zW_t (List.mem_of_getElem? (i := 598) (by decide +kernel)) rfl
theorem q599 : (Jvm.Cond.selects "TraceMachines$Machine" ({ cls := "TraceMachines$Machine", name := "fold", desc := "(LTraceMachines$Traces;LTraceMachines$Tree;LTraceMachines$Follows;I)V" } : Jvm.MethodName) ({ cls := "TraceMachines$Machine", name := "fold", desc := "(LTraceMachines$Traces;LTraceMachines$Tree;LTraceMachines$Follows;I)V" } : Jvm.MethodName)) ∈ zW := zW_t (List.mem_of_getElem? (i := 599) (by decide +kernel)) rfl
theorem q600 : (Jvm.Cond.code ({ cls := "TraceMachines$Machine", name := "fold", desc := "(LTraceMachines$Traces;LTraceMachines$Tree;LTraceMachines$Follows;I)V" } : Jvm.MethodName) prog_4_method_5_code (5 : Nat) (Option.none : Option Jvm.ClassFile.FieldType)) ∈ zW := zW_t (List.mem_of_getElem? (i := 600) (by decide +kernel)) rfl
theorem q601 : (Jvm.Cond.methodLink "TraceMachines$Machine" (55 : Nat) ({ cls := "TraceMachines$Follows", name := "gather", desc := "(LTraceMachines$Traces;LTraceMachines$Tree;I)V" } : Jvm.MethodName)) ∈ zW := zW_t (List.mem_of_getElem? (i := 601) (by decide +kernel)) rfl
theorem q602 : (Jvm.Cond.instanceMethod ({ cls := "TraceMachines$Follows", name := "gather", desc := "(LTraceMachines$Traces;LTraceMachines$Tree;I)V" } : Jvm.MethodName)) ∈ zW := zW_t (List.mem_of_getElem? (i := 602) (by decide +kernel)) rfl
theorem q603 : (Jvm.Cond.selects "TraceMachines$Follows" ({ cls := "TraceMachines$Follows", name := "gather", desc := "(LTraceMachines$Traces;LTraceMachines$Tree;I)V" } : Jvm.MethodName) ({ cls := "TraceMachines$Follows", name := "gather", desc := "(LTraceMachines$Traces;LTraceMachines$Tree;I)V" } : Jvm.MethodName)) ∈ zW := zW_t (List.mem_of_getElem? (i := 603) (by decide +kernel)) rfl
theorem q604 : (Jvm.Cond.code ({ cls := "TraceMachines$Follows", name := "gather", desc := "(LTraceMachines$Traces;LTraceMachines$Tree;I)V" } : Jvm.MethodName) prog_3_method_2_code (6 : Nat) (Option.none : Option Jvm.ClassFile.FieldType)) ∈ zW := zW_t (List.mem_of_getElem? (i := 604) (by decide +kernel)) rfl
theorem q605 : (Jvm.Cond.methodLink "TraceMachines$Follows" (21 : Nat) ({ cls := "java/util/Arrays", name := "fill", desc := "([II)V" } : Jvm.MethodName)) ∈ zW := zW_t (List.mem_of_getElem? (i := 605) (by decide +kernel)) rfl
theorem q606 : (Jvm.Cond.methodLink "TraceMachines$Follows" (44 : Nat) ({ cls := "TraceMachines$Tree", name := "prefixAt", desc := "(II)I" } : Jvm.MethodName)) ∈ zW := zW_t (List.mem_of_getElem? (i := 606) (by decide +kernel)) rfl
theorem q607 : (Jvm.Cond.instanceMethod ({ cls := "TraceMachines$Tree", name := "prefixAt", desc := "(II)I" } : Jvm.MethodName)) ∈ zW := zW_t (List.mem_of_getElem? (i := 607) (by decide +kernel)) rfl
theorem q608 : (Jvm.Cond.selects "TraceMachines$Tree" ({ cls := "TraceMachines$Tree", name := "prefixAt", desc := "(II)I" } : Jvm.MethodName) ({ cls := "TraceMachines$Tree", name := "prefixAt", desc := "(II)I" } : Jvm.MethodName)) ∈ zW := zW_t (List.mem_of_getElem? (i := 608) (by decide +kernel)) rfl
theorem q609 : (Jvm.Cond.code ({ cls := "TraceMachines$Tree", name := "prefixAt", desc := "(II)I" } : Jvm.MethodName) prog_11_method_2_code (3 : Nat) (Option.some Jvm.ClassFile.FieldType.int)) ∈ zW := zW_t (List.mem_of_getElem? (i := 609) (by decide +kernel)) rfl
theorem q610 : (Jvm.Cond.methodLink "TraceMachines$Follows" (48 : Nat) ({ cls := "TraceMachines$Follows", name := "rowOf", desc := "(LTraceMachines$Traces;III)I" } : Jvm.MethodName)) ∈ zW := zW_t (List.mem_of_getElem? (i := 610) (by decide +kernel)) rfl
theorem q611 : (Jvm.Cond.static ({ cls := "TraceMachines$Follows", name := "rowOf", desc := "(LTraceMachines$Traces;III)I" } : Jvm.MethodName)) ∈ zW := zW_t (List.mem_of_getElem? (i := 611) (by decide +kernel)) rfl
theorem q612 : (Jvm.Cond.code ({ cls := "TraceMachines$Follows", name := "rowOf", desc := "(LTraceMachines$Traces;III)I" } : Jvm.MethodName) prog_3_method_3_code (7 : Nat) (Option.some Jvm.ClassFile.FieldType.int)) ∈ zW := zW_t (List.mem_of_getElem? (i := 612) (by decide +kernel)) rfl
theorem q613 : (Jvm.Cond.methodLink "TraceMachines$Follows" (56 : Nat) ({ cls := "TraceMachines$Traces", name := "letterAt", desc := "(II)I" } : Jvm.MethodName)) ∈ zW := zW_t (List.mem_of_getElem? (i := 613) (by decide +kernel)) rfl
theorem q614 : (Jvm.Cond.methodLink "TraceMachines$Follows" (52 : Nat) ({ cls := "TraceMachines$Follows", name := "insert", desc := "(II)V" } : Jvm.MethodName)) ∈ zW := zW_t (List.mem_of_getElem? (i := 614) (by decide +kernel)) rfl
theorem q616 : (Jvm.Cond.instanceMethod ({ cls := "TraceMachines$Follows", name := "insert", desc := "(II)V" } : Jvm.MethodName)) ∈ zW := zW_t (List.mem_of_getElem? (i := 616) (by decide +kernel)) rfl
theorem q617 : (Jvm.Cond.code ({ cls := "TraceMachines$Follows", name := "insert", desc := "(II)V" } : Jvm.MethodName) prog_3_method_4_code (6 : Nat) (Option.none : Option Jvm.ClassFile.FieldType)) ∈ zW := zW_t (List.mem_of_getElem? (i := 617) (by decide +kernel)) rfl
theorem q618 : (Jvm.Cond.methodLink "TraceMachines$Machine" (61 : Nat) ({ cls := "TraceMachines$Machine", name := "foldStates", desc := "(LTraceMachines$Tree;LTraceMachines$Follows;)V" } : Jvm.MethodName)) ∈ zW := zW_t (List.mem_of_getElem? (i := 618) (by decide +kernel)) rfl
theorem q620 : (Jvm.Cond.instanceMethod ({ cls := "TraceMachines$Machine", name := "foldStates", desc := "(LTraceMachines$Tree;LTraceMachines$Follows;)V" } : Jvm.MethodName)) ∈ zW := zW_t (List.mem_of_getElem? (i := 620) (by decide +kernel)) rfl
theorem q621 : (Jvm.Cond.code ({ cls := "TraceMachines$Machine", name := "foldStates", desc := "(LTraceMachines$Tree;LTraceMachines$Follows;)V" } : Jvm.MethodName) prog_4_method_6_code (6 : Nat) (Option.none : Option Jvm.ClassFile.FieldType)) ∈ zW := zW_t (List.mem_of_getElem? (i := 621) (by decide +kernel)) rfl
theorem q622 : (Jvm.Cond.methodLink "TraceMachines$Machine" (79 : Nat) ({ cls := "java/util/Arrays", name := "fill", desc := "([JJ)V" } : Jvm.MethodName)) ∈ zW := zW_t (List.mem_of_getElem? (i := 622) (by decide +kernel)) rfl
theorem q623 : (Jvm.Cond.static ({ cls := "java/util/Arrays", name := "fill", desc := "([JJ)V" } : Jvm.MethodName)) ∈ zW := zW_t (List.mem_of_getElem? (i := 623) (by decide +kernel)) rfl
theorem q624 : (Jvm.Cond.code ({ cls := "java/util/Arrays", name := "fill", desc := "([JJ)V" } : Jvm.MethodName) prog_24_method_101_code (5 : Nat) (Option.none : Option Jvm.ClassFile.FieldType)) ∈ zW := zW_t (List.mem_of_getElem? (i := 624) (by decide +kernel)) rfl
theorem q625 : (Jvm.Cond.methodLink "TraceMachines$Machine" (89 : Nat) ({ cls := "TraceMachines$Follows", name := "firstLike", desc := "(I)I" } : Jvm.MethodName)) ∈ zW := zW_t (List.mem_of_getElem? (i := 625) (by decide +kernel)) rfl
theorem q626 : (Jvm.Cond.instanceMethod ({ cls := "TraceMachines$Follows", name := "firstLike", desc := "(I)I" } : Jvm.MethodName)) ∈ zW := zW_t (List.mem_of_getElem? (i := 626) (by decide +kernel)) rfl
theorem q627 : (Jvm.Cond.selects "TraceMachines$Follows" ({ cls := "TraceMachines$Follows", name := "firstLike", desc := "(I)I" } : Jvm.MethodName) ({ cls := "TraceMachines$Follows", name := "firstLike", desc := "(I)I" } : Jvm.MethodName)) ∈ zW := zW_t (List.mem_of_getElem? (i := 627) (by decide +kernel)) rfl
theorem q628 : (Jvm.Cond.code ({ cls := "TraceMachines$Follows", name := "firstLike", desc := "(I)I" } : Jvm.MethodName) prog_3_method_5_code (6 : Nat) (Option.some Jvm.ClassFile.FieldType.int)) ∈ zW := zW_t (List.mem_of_getElem? (i := 628) (by decide +kernel)) rfl
theorem q629 : (Jvm.Cond.methodLink "TraceMachines$Follows" (59 : Nat) ({ cls := "TraceMachines$Follows", name := "hashOf", desc := "(I)I" } : Jvm.MethodName)) ∈ zW := zW_t (List.mem_of_getElem? (i := 629) (by decide +kernel)) rfl
theorem q631 : (Jvm.Cond.instanceMethod ({ cls := "TraceMachines$Follows", name := "hashOf", desc := "(I)I" } : Jvm.MethodName)) ∈ zW := zW_t (List.mem_of_getElem? (i := 631) (by decide +kernel)) rfl
theorem q632 : (Jvm.Cond.code ({ cls := "TraceMachines$Follows", name := "hashOf", desc := "(I)I" } : Jvm.MethodName) prog_3_method_6_code (5 : Nat) (Option.some Jvm.ClassFile.FieldType.int)) ∈ zW := zW_t (List.mem_of_getElem? (i := 632) (by decide +kernel)) rfl
theorem q633 : (Jvm.Cond.methodLink "TraceMachines$Follows" (63 : Nat) ({ cls := "TraceMachines$Follows", name := "isLike", desc := "(II)Z" } : Jvm.MethodName)) ∈ zW := zW_t (List.mem_of_getElem? (i := 633) (by decide +kernel)) rfl
theorem q635 : (Jvm.Cond.instanceMethod ({ cls := "TraceMachines$Follows", name := "isLike", desc := "(II)Z" } : Jvm.MethodName)) ∈ zW := zW_t (List.mem_of_getElem? (i := 635) (by decide +kernel)) rfl
theorem q636 : (Jvm.Cond.code ({ cls := "TraceMachines$Follows", name := "isLike", desc := "(II)Z" } : Jvm.MethodName) prog_3_method_7_code (4 : Nat) (Option.some Jvm.ClassFile.FieldType.boolean)) ∈ zW := zW_t (List.mem_of_getElem? (i := 636) (by decide +kernel)) rfl
theorem q637 : (Jvm.Cond.methodLink "TraceMachines$Machine" (65 : Nat) ({ cls := "TraceMachines$Machine", name := "gatherKeys", desc := "(LTraceMachines$Tree;)V" } : Jvm.MethodName)) ∈ zW := zW_t (List.mem_of_getElem? (i := 637) (by decide +kernel)) rfl
theorem q639 : (Jvm.Cond.instanceMethod ({ cls := "TraceMachines$Machine", name := "gatherKeys", desc := "(LTraceMachines$Tree;)V" } : Jvm.MethodName)) ∈ zW := zW_t (List.mem_of_getElem? (i := 639) (by decide +kernel)) rfl
theorem q640 : (Jvm.Cond.code ({ cls := "TraceMachines$Machine", name := "gatherKeys", desc := "(LTraceMachines$Tree;)V" } : Jvm.MethodName) prog_4_method_9_code (5 : Nat) (Option.none : Option Jvm.ClassFile.FieldType)) ∈ zW := zW_t (List.mem_of_getElem? (i := 640) (by decide +kernel)) rfl
theorem q641 : (Jvm.Cond.methodLink "TraceMachines$Machine" (106 : Nat) ({ cls := "TraceMachines$Machine", name := "keyOf", desc := "(LTraceMachines$Tree;I)I" } : Jvm.MethodName)) ∈ zW := zW_t (List.mem_of_getElem? (i := 641) (by decide +kernel)) rfl
theorem q643 : (Jvm.Cond.instanceMethod ({ cls := "TraceMachines$Machine", name := "keyOf", desc := "(LTraceMachines$Tree;I)I" } : Jvm.MethodName)) ∈ zW := zW_t (List.mem_of_getElem? (i := 643) (by decide +kernel)) rfl
theorem q644 : (Jvm.Cond.code ({ cls := "TraceMachines$Machine", name := "keyOf", desc := "(LTraceMachines$Tree;I)I" } : Jvm.MethodName) prog_4_method_7_code (4 : Nat) (Option.some Jvm.ClassFile.FieldType.int)) ∈ zW := zW_t (List.mem_of_getElem? (i := 644) (by decide +kernel)) rfl
theorem q645 : (Jvm.Cond.methodLink "TraceMachines$Machine" (110 : Nat) ({ cls := "TraceMachines$Machine", name := "placeOf", desc := "(I)I" } : Jvm.MethodName)) ∈ zW := zW_t (List.mem_of_getElem? (i := 645) (by decide +kernel)) rfl
theorem q647 : (Jvm.Cond.instanceMethod ({ cls := "TraceMachines$Machine", name := "placeOf", desc := "(I)I" } : Jvm.MethodName)) ∈ zW := zW_t (List.mem_of_getElem? (i := 647) (by decide +kernel)) rfl
theorem q648 : (Jvm.Cond.code ({ cls := "TraceMachines$Machine", name := "placeOf", desc := "(I)I" } : Jvm.MethodName) prog_4_method_8_code (5 : Nat) (Option.some Jvm.ClassFile.FieldType.int)) ∈ zW := zW_t (List.mem_of_getElem? (i := 648) (by decide +kernel)) rfl
theorem q649 : (Jvm.Cond.methodLink "TraceMachines$Machine" (113 : Nat) ({ cls := "java/lang/System", name := "arraycopy", desc := "(Ljava/lang/Object;ILjava/lang/Object;II)V" } : Jvm.MethodName)) ∈ zW := zW_t (List.mem_of_getElem? (i := 649) (by decide +kernel)) rfl
theorem q650 : (Jvm.Cond.methodLink "TraceMachines$Machine" (69 : Nat) ({ cls := "TraceMachines$Machine", name := "gatherRanges", desc := "(LTraceMachines$Tree;)V" } : Jvm.MethodName)) ∈ zW := zW_t (List.mem_of_getElem? (i := 650) (by decide +kernel)) rfl
theorem q652 : (Jvm.Cond.instanceMethod ({ cls := "TraceMachines$Machine", name := "gatherRanges", desc := "(LTraceMachines$Tree;)V" } : Jvm.MethodName)) ∈ zW := zW_t (List.mem_of_getElem? (i := 652) (by decide +kernel)) rfl
theorem q653 : (Jvm.Cond.code ({ cls := "TraceMachines$Machine", name := "gatherRanges", desc := "(LTraceMachines$Tree;)V" } : Jvm.MethodName) prog_4_method_10_code (4 : Nat) (Option.none : Option Jvm.ClassFile.FieldType)) ∈ zW := zW_t (List.mem_of_getElem? (i := 653) (by decide +kernel)) rfl
theorem q654 : (Jvm.Cond.methodLink "TraceMachines$Machine" (123 : Nat) ({ cls := "java/lang/Math", name := "min", desc := "(II)I" } : Jvm.MethodName)) ∈ zW := zW_t (List.mem_of_getElem? (i := 654) (by decide +kernel)) rfl
theorem q655 : (Jvm.Cond.methodLink "TraceMachines$Machine" (130 : Nat) ({ cls := "java/lang/Math", name := "max", desc := "(II)I" } : Jvm.MethodName)) ∈ zW := zW_t (List.mem_of_getElem? (i := 655) (by decide +kernel)) rfl
theorem q656 : (Jvm.Cond.methodLink "TraceMachines$Machine" (72 : Nat) ({ cls := "TraceMachines$Machine", name := "gatherFirsts", desc := "()V" } : Jvm.MethodName)) ∈ zW := zW_t (List.mem_of_getElem? (i := 656) (by decide +kernel)) rfl
theorem q658 : (Jvm.Cond.instanceMethod ({ cls := "TraceMachines$Machine", name := "gatherFirsts", desc := "()V" } : Jvm.MethodName)) ∈ zW := zW_t (List.mem_of_getElem? (i := 658) (by decide +kernel)) rfl
theorem q659 : (Jvm.Cond.code ({ cls := "TraceMachines$Machine", name := "gatherFirsts", desc := "()V" } : Jvm.MethodName) prog_4_method_11_code (3 : Nat) (Option.none : Option Jvm.ClassFile.FieldType)) ∈ zW := zW_t (List.mem_of_getElem? (i := 659) (by decide +kernel)) rfl
theorem q660 : (Jvm.Cond.methodLink "TraceMachines$Machine" (133 : Nat) ({ cls := "TraceMachines$Machine", name := "from", desc := "(I)I" } : Jvm.MethodName)) ∈ zW := zW_t (List.mem_of_getElem? (i := 660) (by decide +kernel)) rfl
theorem q661 : (Jvm.Cond.instanceMethod ({ cls := "TraceMachines$Machine", name := "from", desc := "(I)I" } : Jvm.MethodName)) ∈ zW := zW_t (List.mem_of_getElem? (i := 661) (by decide +kernel)) rfl
theorem q662 : (Jvm.Cond.selects "TraceMachines$Machine" ({ cls := "TraceMachines$Machine", name := "from", desc := "(I)I" } : Jvm.MethodName) ({ cls := "TraceMachines$Machine", name := "from", desc := "(I)I" } : Jvm.MethodName)) ∈ zW := zW_t (List.mem_of_getElem? (i := 662) (by decide +kernel)) rfl
theorem q663 : (Jvm.Cond.code ({ cls := "TraceMachines$Machine", name := "from", desc := "(I)I" } : Jvm.MethodName) prog_4_method_2_code (2 : Nat) (Option.some Jvm.ClassFile.FieldType.int)) ∈ zW := zW_t (List.mem_of_getElem? (i := 663) (by decide +kernel)) rfl
theorem q664 : (Jvm.Cond.methodLink "TraceMachines" (214 : Nat) ({ cls := "TraceMachines$Machine", name := "leavers", desc := "(I)I" } : Jvm.MethodName)) ∈ zW := zW_t (List.mem_of_getElem? (i := 664) (by decide +kernel)) rfl
theorem q665 : (Jvm.Cond.instanceMethod ({ cls := "TraceMachines$Machine", name := "leavers", desc := "(I)I" } : Jvm.MethodName)) ∈ zW := zW_t (List.mem_of_getElem? (i := 665) (by decide +kernel)) rfl
theorem q666 : (Jvm.Cond.selects "TraceMachines$Machine" ({ cls := "TraceMachines$Machine", name := "leavers", desc := "(I)I" } : Jvm.MethodName) ({ cls := "TraceMachines$Machine", name := "leavers", desc := "(I)I" } : Jvm.MethodName)) ∈ zW := zW_t (List.mem_of_getElem? (i := 666) (by decide +kernel)) rfl
theorem q667 : (Jvm.Cond.code ({ cls := "TraceMachines$Machine", name := "leavers", desc := "(I)I" } : Jvm.MethodName) prog_4_method_12_code (4 : Nat) (Option.some Jvm.ClassFile.FieldType.int)) ∈ zW := zW_t (List.mem_of_getElem? (i := 667) (by decide +kernel)) rfl
theorem q668 : (Jvm.Cond.methodLink "TraceMachinesLaw" (64 : Nat) ({ cls := "TraceMachines", name := "edge", desc := "(II)I" } : Jvm.MethodName)) ∈ zW := zW_t (List.mem_of_getElem? (i := 668) (by decide +kernel)) rfl
theorem q669 : (Jvm.Cond.instanceMethod ({ cls := "TraceMachines", name := "edge", desc := "(II)I" } : Jvm.MethodName)) ∈ zW := zW_t (List.mem_of_getElem? (i := 669) (by decide +kernel)) rfl
theorem q670 : (Jvm.Cond.selects "TraceMachines" ({ cls := "TraceMachines", name := "edge", desc := "(II)I" } : Jvm.MethodName) ({ cls := "TraceMachines", name := "edge", desc := "(II)I" } : Jvm.MethodName)) ∈ zW := zW_t (List.mem_of_getElem? (i := 670) (by decide +kernel)) rfl
theorem q671 : (Jvm.Cond.code ({ cls := "TraceMachines", name := "edge", desc := "(II)I" } : Jvm.MethodName) prog_1_method_11_code (4 : Nat) (Option.some Jvm.ClassFile.FieldType.int)) ∈ zW := zW_t (List.mem_of_getElem? (i := 671) (by decide +kernel)) rfl
theorem q672 : (Jvm.Cond.methodLink "TraceMachines" (223 : Nat) ({ cls := "TraceMachines$Machine", name := "from", desc := "(I)I" } : Jvm.MethodName)) ∈ zW := zW_t (List.mem_of_getElem? (i := 672) (by decide +kernel)) rfl
theorem q673 : (Jvm.Cond.methodLink "TraceMachines" (226 : Nat) ({ cls := "TraceMachines$Machine", name := "letter", desc := "(I)I" } : Jvm.MethodName)) ∈ zW := zW_t (List.mem_of_getElem? (i := 673) (by decide +kernel)) rfl
theorem q674 : (Jvm.Cond.instanceMethod ({ cls := "TraceMachines$Machine", name := "letter", desc := "(I)I" } : Jvm.MethodName)) ∈ zW := zW_t (List.mem_of_getElem? (i := 674) (by decide +kernel)) rfl
theorem q675 : (Jvm.Cond.selects "TraceMachines$Machine" ({ cls := "TraceMachines$Machine", name := "letter", desc := "(I)I" } : Jvm.MethodName) ({ cls := "TraceMachines$Machine", name := "letter", desc := "(I)I" } : Jvm.MethodName)) ∈ zW := zW_t (List.mem_of_getElem? (i := 675) (by decide +kernel)) rfl
theorem q676 : (Jvm.Cond.code ({ cls := "TraceMachines$Machine", name := "letter", desc := "(I)I" } : Jvm.MethodName) prog_4_method_3_code (2 : Nat) (Option.some Jvm.ClassFile.FieldType.int)) ∈ zW := zW_t (List.mem_of_getElem? (i := 676) (by decide +kernel)) rfl
theorem q677 : (Jvm.Cond.methodLink "TraceMachines" (182 : Nat) ({ cls := "TraceMachines", name := "signOf", desc := "(I)I" } : Jvm.MethodName)) ∈ zW := zW_t (List.mem_of_getElem? (i := 677) (by decide +kernel)) rfl
theorem q678 : (Jvm.Cond.static ({ cls := "TraceMachines", name := "signOf", desc := "(I)I" } : Jvm.MethodName)) ∈ zW := zW_t (List.mem_of_getElem? (i := 678) (by decide +kernel)) rfl
theorem q679 : (Jvm.Cond.code ({ cls := "TraceMachines", name := "signOf", desc := "(I)I" } : Jvm.MethodName) prog_1_method_33_code (1 : Nat) (Option.some Jvm.ClassFile.FieldType.int)) ∈ zW := zW_t (List.mem_of_getElem? (i := 679) (by decide +kernel)) rfl
theorem q680 : (Jvm.Cond.methodLink "TraceMachines" (229 : Nat) ({ cls := "TraceMachines$Machine", name := "to", desc := "(I)I" } : Jvm.MethodName)) ∈ zW := zW_t (List.mem_of_getElem? (i := 680) (by decide +kernel)) rfl
theorem q681 : (Jvm.Cond.instanceMethod ({ cls := "TraceMachines$Machine", name := "to", desc := "(I)I" } : Jvm.MethodName)) ∈ zW := zW_t (List.mem_of_getElem? (i := 681) (by decide +kernel)) rfl
theorem q682 : (Jvm.Cond.selects "TraceMachines$Machine" ({ cls := "TraceMachines$Machine", name := "to", desc := "(I)I" } : Jvm.MethodName) ({ cls := "TraceMachines$Machine", name := "to", desc := "(I)I" } : Jvm.MethodName)) ∈ zW := zW_t (List.mem_of_getElem? (i := 682) (by decide +kernel)) rfl
theorem q683 : (Jvm.Cond.code ({ cls := "TraceMachines$Machine", name := "to", desc := "(I)I" } : Jvm.MethodName) prog_4_method_4_code (2 : Nat) (Option.some Jvm.ClassFile.FieldType.int)) ∈ zW := zW_t (List.mem_of_getElem? (i := 683) (by decide +kernel)) rfl
theorem q684 : (Jvm.Cond.methodLink "TraceMachinesLaw" (68 : Nat) ({ cls := "TraceMachines", name := "vague", desc := "(I)I" } : Jvm.MethodName)) ∈ zW := zW_t (List.mem_of_getElem? (i := 684) (by decide +kernel)) rfl
theorem q685 : (Jvm.Cond.instanceMethod ({ cls := "TraceMachines", name := "vague", desc := "(I)I" } : Jvm.MethodName)) ∈ zW := zW_t (List.mem_of_getElem? (i := 685) (by decide +kernel)) rfl
theorem q686 : (Jvm.Cond.selects "TraceMachines" ({ cls := "TraceMachines", name := "vague", desc := "(I)I" } : Jvm.MethodName) ({ cls := "TraceMachines", name := "vague", desc := "(I)I" } : Jvm.MethodName)) ∈ zW := zW_t (List.mem_of_getElem? (i := 686) (by decide +kernel)) rfl
theorem q687 : (Jvm.Cond.code ({ cls := "TraceMachines", name := "vague", desc := "(I)I" } : Jvm.MethodName) prog_1_method_12_code (2 : Nat) (Option.some Jvm.ClassFile.FieldType.int)) ∈ zW := zW_t (List.mem_of_getElem? (i := 687) (by decide +kernel)) rfl
theorem q688 : (Jvm.Cond.methodLink "TraceMachines" (241 : Nat) ({ cls := "TraceMachines$Machine", name := "forks", desc := "(I)I" } : Jvm.MethodName)) ∈ zW := zW_t (List.mem_of_getElem? (i := 688) (by decide +kernel)) rfl
theorem q689 : (Jvm.Cond.instanceMethod ({ cls := "TraceMachines$Machine", name := "forks", desc := "(I)I" } : Jvm.MethodName)) ∈ zW := zW_t (List.mem_of_getElem? (i := 689) (by decide +kernel)) rfl
theorem q690 : (Jvm.Cond.selects "TraceMachines$Machine" ({ cls := "TraceMachines$Machine", name := "forks", desc := "(I)I" } : Jvm.MethodName) ({ cls := "TraceMachines$Machine", name := "forks", desc := "(I)I" } : Jvm.MethodName)) ∈ zW := zW_t (List.mem_of_getElem? (i := 690) (by decide +kernel)) rfl
theorem q691 : (Jvm.Cond.code ({ cls := "TraceMachines$Machine", name := "forks", desc := "(I)I" } : Jvm.MethodName) prog_4_method_14_code (7 : Nat) (Option.some Jvm.ClassFile.FieldType.int)) ∈ zW := zW_t (List.mem_of_getElem? (i := 691) (by decide +kernel)) rfl
theorem q692 : (Jvm.Cond.methodLink "TraceMachinesLaw" (72 : Nat) ({ cls := "TraceMachines", name := "run", desc := "(Z)I" } : Jvm.MethodName)) ∈ zW := zW_t (List.mem_of_getElem? (i := 692) (by decide +kernel)) rfl
theorem q693 : (Jvm.Cond.instanceMethod ({ cls := "TraceMachines", name := "run", desc := "(Z)I" } : Jvm.MethodName)) ∈ zW := zW_t (List.mem_of_getElem? (i := 693) (by decide +kernel)) rfl
theorem q694 : (Jvm.Cond.selects "TraceMachines" ({ cls := "TraceMachines", name := "run", desc := "(Z)I" } : Jvm.MethodName) ({ cls := "TraceMachines", name := "run", desc := "(Z)I" } : Jvm.MethodName)) ∈ zW := zW_t (List.mem_of_getElem? (i := 694) (by decide +kernel)) rfl
theorem q695 : (Jvm.Cond.code ({ cls := "TraceMachines", name := "run", desc := "(Z)I" } : Jvm.MethodName) prog_1_method_13_code (4 : Nat) (Option.some Jvm.ClassFile.FieldType.int)) ∈ zW := zW_t (List.mem_of_getElem? (i := 695) (by decide +kernel)) rfl
theorem q696 : (Jvm.Cond.methodLink "TraceMachines" (244 : Nat) ({ cls := "TraceMachines", name := "slack", desc := "(Z)I" } : Jvm.MethodName)) ∈ zW := zW_t (List.mem_of_getElem? (i := 696) (by decide +kernel)) rfl
theorem q698 : (Jvm.Cond.instanceMethod ({ cls := "TraceMachines", name := "slack", desc := "(Z)I" } : Jvm.MethodName)) ∈ zW := zW_t (List.mem_of_getElem? (i := 698) (by decide +kernel)) rfl
theorem q699 : (Jvm.Cond.code ({ cls := "TraceMachines", name := "slack", desc := "(Z)I" } : Jvm.MethodName) prog_1_method_34_code (2 : Nat) (Option.some Jvm.ClassFile.FieldType.int)) ∈ zW := zW_t (List.mem_of_getElem? (i := 699) (by decide +kernel)) rfl
theorem q700 : (Jvm.Cond.methodLink "TraceMachines" (248 : Nat) ({ cls := "TraceMachines$Machine", name := "failsAt", desc := "(LTraceMachines$Traces;IILTraceMachines$StateSets;)I" } : Jvm.MethodName)) ∈ zW := zW_t (List.mem_of_getElem? (i := 700) (by decide +kernel)) rfl
theorem q701 : (Jvm.Cond.instanceMethod ({ cls := "TraceMachines$Machine", name := "failsAt", desc := "(LTraceMachines$Traces;IILTraceMachines$StateSets;)I" } : Jvm.MethodName)) ∈ zW := zW_t (List.mem_of_getElem? (i := 701) (by decide +kernel)) rfl
theorem q702 : (Jvm.Cond.selects "TraceMachines$Machine" ({ cls := "TraceMachines$Machine", name := "failsAt", desc := "(LTraceMachines$Traces;IILTraceMachines$StateSets;)I" } : Jvm.MethodName) ({ cls := "TraceMachines$Machine", name := "failsAt", desc := "(LTraceMachines$Traces;IILTraceMachines$StateSets;)I" } : Jvm.MethodName)) ∈ zW := zW_t (List.mem_of_getElem? (i := 702) (by decide +kernel)) rfl
theorem q703 : (Jvm.Cond.code ({ cls := "TraceMachines$Machine", name := "failsAt", desc := "(LTraceMachines$Traces;IILTraceMachines$StateSets;)I" } : Jvm.MethodName) prog_4_method_15_code (7 : Nat) (Option.some Jvm.ClassFile.FieldType.int)) ∈ zW := zW_t (List.mem_of_getElem? (i := 703) (by decide +kernel)) rfl
theorem q704 : (Jvm.Cond.methodLink "TraceMachines$Machine" (136 : Nat) ({ cls := "TraceMachines$StateSets", name := "clear", desc := "()V" } : Jvm.MethodName)) ∈ zW := zW_t (List.mem_of_getElem? (i := 704) (by decide +kernel)) rfl
theorem q705 : (Jvm.Cond.instanceMethod ({ cls := "TraceMachines$StateSets", name := "clear", desc := "()V" } : Jvm.MethodName)) ∈ zW := zW_t (List.mem_of_getElem? (i := 705) (by decide +kernel)) rfl
theorem q706 : (Jvm.Cond.selects "TraceMachines$StateSets" ({ cls := "TraceMachines$StateSets", name := "clear", desc := "()V" } : Jvm.MethodName) ({ cls := "TraceMachines$StateSets", name := "clear", desc := "()V" } : Jvm.MethodName)) ∈ zW := zW_t (List.mem_of_getElem? (i := 706) (by decide +kernel)) rfl
theorem q707 : (Jvm.Cond.code ({ cls := "TraceMachines$StateSets", name := "clear", desc := "()V" } : Jvm.MethodName) prog_8_method_3_code (1 : Nat) (Option.none : Option Jvm.ClassFile.FieldType)) ∈ zW := zW_t (List.mem_of_getElem? (i := 707) (by decide +kernel)) rfl
theorem q708 : (Jvm.Cond.methodLink "TraceMachines$StateSets" (35 : Nat) ({ cls := "java/util/Arrays", name := "fill", desc := "([JJ)V" } : Jvm.MethodName)) ∈ zW := zW_t (List.mem_of_getElem? (i := 708) (by decide +kernel)) rfl
theorem q709 : (Jvm.Cond.methodLink "TraceMachines$Machine" (139 : Nat) ({ cls := "TraceMachines$StateSets", name := "put", desc := "(III)V" } : Jvm.MethodName)) ∈ zW := zW_t (List.mem_of_getElem? (i := 709) (by decide +kernel)) rfl
theorem q710 : (Jvm.Cond.instanceMethod ({ cls := "TraceMachines$StateSets", name := "put", desc := "(III)V" } : Jvm.MethodName)) ∈ zW := zW_t (List.mem_of_getElem? (i := 710) (by decide +kernel)) rfl
theorem q711 : (Jvm.Cond.selects "TraceMachines$StateSets" ({ cls := "TraceMachines$StateSets", name := "put", desc := "(III)V" } : Jvm.MethodName) ({ cls := "TraceMachines$StateSets", name := "put", desc := "(III)V" } : Jvm.MethodName)) ∈ zW := zW_t (List.mem_of_getElem? (i := 711) (by decide +kernel)) rfl
theorem q712 : (Jvm.Cond.code ({ cls := "TraceMachines$StateSets", name := "put", desc := "(III)V" } : Jvm.MethodName) prog_8_method_4_code (4 : Nat) (Option.none : Option Jvm.ClassFile.FieldType)) ∈ zW := zW_t (List.mem_of_getElem? (i := 712) (by decide +kernel)) rfl
theorem q713 : (Jvm.Cond.methodLink "TraceMachines$Machine" (148 : Nat) ({ cls := "TraceMachines$Traces", name := "letterAt", desc := "(II)I" } : Jvm.MethodName)) ∈ zW := zW_t (List.mem_of_getElem? (i := 713) (by decide +kernel)) rfl
theorem q714 : (Jvm.Cond.methodLink "TraceMachines$Machine" (151 : Nat) ({ cls := "TraceMachines$Traces", name := "valueAt", desc := "(II)I" } : Jvm.MethodName)) ∈ zW := zW_t (List.mem_of_getElem? (i := 714) (by decide +kernel)) rfl
theorem q715 : (Jvm.Cond.methodLink "TraceMachines$Machine" (154 : Nat) ({ cls := "TraceMachines$Machine", name := "goOn", desc := "(LTraceMachines$StateSets;III)V" } : Jvm.MethodName)) ∈ zW := zW_t (List.mem_of_getElem? (i := 715) (by decide +kernel)) rfl
theorem q717 : (Jvm.Cond.instanceMethod ({ cls := "TraceMachines$Machine", name := "goOn", desc := "(LTraceMachines$StateSets;III)V" } : Jvm.MethodName)) ∈ zW := zW_t (List.mem_of_getElem? (i := 717) (by decide +kernel)) rfl
theorem q718 : (Jvm.Cond.code ({ cls := "TraceMachines$Machine", name := "goOn", desc := "(LTraceMachines$StateSets;III)V" } : Jvm.MethodName) prog_4_method_16_code (10 : Nat) (Option.none : Option Jvm.ClassFile.FieldType)) ∈ zW := zW_t (List.mem_of_getElem? (i := 718) (by decide +kernel)) rfl
theorem q719 : (Jvm.Cond.methodLink "TraceMachines$Machine" (166 : Nat) ({ cls := "TraceMachines$StateSets", name := "longAt", desc := "(III)J" } : Jvm.MethodName)) ∈ zW := zW_t (List.mem_of_getElem? (i := 719) (by decide +kernel)) rfl
theorem q720 : (Jvm.Cond.instanceMethod ({ cls := "TraceMachines$StateSets", name := "longAt", desc := "(III)J" } : Jvm.MethodName)) ∈ zW := zW_t (List.mem_of_getElem? (i := 720) (by decide +kernel)) rfl
theorem q721 : (Jvm.Cond.selects "TraceMachines$StateSets" ({ cls := "TraceMachines$StateSets", name := "longAt", desc := "(III)J" } : Jvm.MethodName) ({ cls := "TraceMachines$StateSets", name := "longAt", desc := "(III)J" } : Jvm.MethodName)) ∈ zW := zW_t (List.mem_of_getElem? (i := 721) (by decide +kernel)) rfl
theorem q722 : (Jvm.Cond.code ({ cls := "TraceMachines$StateSets", name := "longAt", desc := "(III)J" } : Jvm.MethodName) prog_8_method_5_code (4 : Nat) (Option.some Jvm.ClassFile.FieldType.long)) ∈ zW := zW_t (List.mem_of_getElem? (i := 722) (by decide +kernel)) rfl
theorem q723 : (Jvm.Cond.methodLink "TraceMachines$Machine" (170 : Nat) ({ cls := "TraceMachines$StateSets", name := "lowest", desc := "(J)I" } : Jvm.MethodName)) ∈ zW := zW_t (List.mem_of_getElem? (i := 723) (by decide +kernel)) rfl
theorem q724 : (Jvm.Cond.static ({ cls := "TraceMachines$StateSets", name := "lowest", desc := "(J)I" } : Jvm.MethodName)) ∈ zW := zW_t (List.mem_of_getElem? (i := 724) (by decide +kernel)) rfl
theorem q725 : (Jvm.Cond.code ({ cls := "TraceMachines$StateSets", name := "lowest", desc := "(J)I" } : Jvm.MethodName) prog_8_method_9_code (2 : Nat) (Option.some Jvm.ClassFile.FieldType.int)) ∈ zW := zW_t (List.mem_of_getElem? (i := 725) (by decide +kernel)) rfl
theorem q726 : (Jvm.Cond.methodLink "TraceMachines$StateSets" (38 : Nat) ({ cls := "java/lang/Long", name := "bitCount", desc := "(J)I" } : Jvm.MethodName)) ∈ zW := zW_t (List.mem_of_getElem? (i := 726) (by decide +kernel)) rfl
theorem q727 : (Jvm.Cond.static ({ cls := "java/lang/Long", name := "bitCount", desc := "(J)I" } : Jvm.MethodName)) ∈ zW := zW_t (List.mem_of_getElem? (i := 727) (by decide +kernel)) rfl
theorem q728 : (Jvm.Cond.code ({ cls := "java/lang/Long", name := "bitCount", desc := "(J)I" } : Jvm.MethodName) prog_18_method_50_code (2 : Nat) (Option.some Jvm.ClassFile.FieldType.int)) ∈ zW := zW_t (List.mem_of_getElem? (i := 728) (by decide +kernel)) rfl
theorem q729 : (Jvm.Cond.constantLong "java/lang/Long" (314 : Nat) (6148914691236517205 : Int64)) ∈ zW := zW_t (List.mem_of_getElem? (i := 729) (by decide +kernel)) rfl
theorem q730 : (Jvm.Cond.constantLong "java/lang/Long" (316 : Nat) (3689348814741910323 : Int64)) ∈ zW := zW_t (List.mem_of_getElem? (i := 730) (by decide +kernel)) rfl
theorem q731 : (Jvm.Cond.constantLong "java/lang/Long" (318 : Nat) (1085102592571150095 : Int64)) ∈ zW := zW_t (List.mem_of_getElem? (i := 731) (by decide +kernel)) rfl
theorem q732 : (Jvm.Cond.methodLink "TraceMachines$Machine" (174 : Nat) ({ cls := "TraceMachines$Machine", name := "letter", desc := "(I)I" } : Jvm.MethodName)) ∈ zW := zW_t (List.mem_of_getElem? (i := 732) (by decide +kernel)) rfl
theorem q733 : (Jvm.Cond.methodLink "TraceMachines$Machine" (176 : Nat) ({ cls := "TraceMachines$Machine", name := "to", desc := "(I)I" } : Jvm.MethodName)) ∈ zW := zW_t (List.mem_of_getElem? (i := 733) (by decide +kernel)) rfl
theorem q734 : (Jvm.Cond.methodLink "TraceMachines$Machine" (179 : Nat) ({ cls := "TraceMachines$StateSets", name := "moveRow", desc := "(II)V" } : Jvm.MethodName)) ∈ zW := zW_t (List.mem_of_getElem? (i := 734) (by decide +kernel)) rfl
theorem q735 : (Jvm.Cond.instanceMethod ({ cls := "TraceMachines$StateSets", name := "moveRow", desc := "(II)V" } : Jvm.MethodName)) ∈ zW := zW_t (List.mem_of_getElem? (i := 735) (by decide +kernel)) rfl
theorem q736 : (Jvm.Cond.selects "TraceMachines$StateSets" ({ cls := "TraceMachines$StateSets", name := "moveRow", desc := "(II)V" } : Jvm.MethodName) ({ cls := "TraceMachines$StateSets", name := "moveRow", desc := "(II)V" } : Jvm.MethodName)) ∈ zW := zW_t (List.mem_of_getElem? (i := 736) (by decide +kernel)) rfl
theorem q737 : (Jvm.Cond.code ({ cls := "TraceMachines$StateSets", name := "moveRow", desc := "(II)V" } : Jvm.MethodName) prog_8_method_10_code (4 : Nat) (Option.none : Option Jvm.ClassFile.FieldType)) ∈ zW := zW_t (List.mem_of_getElem? (i := 737) (by decide +kernel)) rfl
theorem q738 : (Jvm.Cond.methodLink "TraceMachines$Machine" (158 : Nat) ({ cls := "TraceMachines$StateSets", name := "isEmpty", desc := "(I)Z" } : Jvm.MethodName)) ∈ zW := zW_t (List.mem_of_getElem? (i := 738) (by decide +kernel)) rfl
theorem q739 : (Jvm.Cond.instanceMethod ({ cls := "TraceMachines$StateSets", name := "isEmpty", desc := "(I)Z" } : Jvm.MethodName)) ∈ zW := zW_t (List.mem_of_getElem? (i := 739) (by decide +kernel)) rfl
theorem q740 : (Jvm.Cond.selects "TraceMachines$StateSets" ({ cls := "TraceMachines$StateSets", name := "isEmpty", desc := "(I)Z" } : Jvm.MethodName) ({ cls := "TraceMachines$StateSets", name := "isEmpty", desc := "(I)Z" } : Jvm.MethodName)) ∈ zW := zW_t (List.mem_of_getElem? (i := 740) (by decide +kernel)) rfl
theorem q741 : (Jvm.Cond.code ({ cls := "TraceMachines$StateSets", name := "isEmpty", desc := "(I)Z" } : Jvm.MethodName) prog_8_method_7_code (3 : Nat) (Option.some Jvm.ClassFile.FieldType.boolean)) ∈ zW := zW_t (List.mem_of_getElem? (i := 741) (by decide +kernel)) rfl
theorem q742 : (Jvm.Cond.methodLink "TraceMachines$Machine" (162 : Nat) ({ cls := "TraceMachines$Machine", name := "takes", desc := "(LTraceMachines$StateSets;II)Z" } : Jvm.MethodName)) ∈ zW := zW_t (List.mem_of_getElem? (i := 742) (by decide +kernel)) rfl
theorem q743 : (Jvm.Cond.instanceMethod ({ cls := "TraceMachines$Machine", name := "takes", desc := "(LTraceMachines$StateSets;II)Z" } : Jvm.MethodName)) ∈ zW := zW_t (List.mem_of_getElem? (i := 743) (by decide +kernel)) rfl
theorem q744 : (Jvm.Cond.selects "TraceMachines$Machine" ({ cls := "TraceMachines$Machine", name := "takes", desc := "(LTraceMachines$StateSets;II)Z" } : Jvm.MethodName) ({ cls := "TraceMachines$Machine", name := "takes", desc := "(LTraceMachines$StateSets;II)Z" } : Jvm.MethodName)) ∈ zW := zW_t (List.mem_of_getElem? (i := 744) (by decide +kernel)) rfl
theorem q745 : (Jvm.Cond.code ({ cls := "TraceMachines$Machine", name := "takes", desc := "(LTraceMachines$StateSets;II)Z" } : Jvm.MethodName) prog_4_method_18_code (5 : Nat) (Option.some Jvm.ClassFile.FieldType.boolean)) ∈ zW := zW_t (List.mem_of_getElem? (i := 745) (by decide +kernel)) rfl
theorem q746 : (Jvm.Cond.methodLink "TraceMachines" (252 : Nat) ({ cls := "TraceMachines$StateSets", name := "size", desc := "(I)I" } : Jvm.MethodName)) ∈ zW := zW_t (List.mem_of_getElem? (i := 746) (by decide +kernel)) rfl
theorem q747 : (Jvm.Cond.instanceMethod ({ cls := "TraceMachines$StateSets", name := "size", desc := "(I)I" } : Jvm.MethodName)) ∈ zW := zW_t (List.mem_of_getElem? (i := 747) (by decide +kernel)) rfl
theorem q748 : (Jvm.Cond.selects "TraceMachines$StateSets" ({ cls := "TraceMachines$StateSets", name := "size", desc := "(I)I" } : Jvm.MethodName) ({ cls := "TraceMachines$StateSets", name := "size", desc := "(I)I" } : Jvm.MethodName)) ∈ zW := zW_t (List.mem_of_getElem? (i := 748) (by decide +kernel)) rfl
theorem q749 : (Jvm.Cond.code ({ cls := "TraceMachines$StateSets", name := "size", desc := "(I)I" } : Jvm.MethodName) prog_8_method_6_code (4 : Nat) (Option.some Jvm.ClassFile.FieldType.int)) ∈ zW := zW_t (List.mem_of_getElem? (i := 749) (by decide +kernel)) rfl
theorem q750 : (Jvm.Cond.methodLink "TraceMachines" (255 : Nat) ({ cls := "TraceMachines$StateSets", name := "least", desc := "(I)I" } : Jvm.MethodName)) ∈ zW := zW_t (List.mem_of_getElem? (i := 750) (by decide +kernel)) rfl
theorem q751 : (Jvm.Cond.instanceMethod ({ cls := "TraceMachines$StateSets", name := "least", desc := "(I)I" } : Jvm.MethodName)) ∈ zW := zW_t (List.mem_of_getElem? (i := 751) (by decide +kernel)) rfl
theorem q752 : (Jvm.Cond.selects "TraceMachines$StateSets" ({ cls := "TraceMachines$StateSets", name := "least", desc := "(I)I" } : Jvm.MethodName) ({ cls := "TraceMachines$StateSets", name := "least", desc := "(I)I" } : Jvm.MethodName)) ∈ zW := zW_t (List.mem_of_getElem? (i := 752) (by decide +kernel)) rfl
theorem q753 : (Jvm.Cond.code ({ cls := "TraceMachines$StateSets", name := "least", desc := "(I)I" } : Jvm.MethodName) prog_8_method_8_code (5 : Nat) (Option.some Jvm.ClassFile.FieldType.int)) ∈ zW := zW_t (List.mem_of_getElem? (i := 753) (by decide +kernel)) rfl
theorem q754 : (Jvm.Cond.methodLink "TraceMachines$StateSets" (44 : Nat) ({ cls := "TraceMachines$StateSets", name := "lowest", desc := "(J)I" } : Jvm.MethodName)) ∈ zW := zW_t (List.mem_of_getElem? (i := 754) (by decide +kernel)) rfl
theorem q755 : (Jvm.Cond.methodLink "TraceMachinesLaw" (77 : Nat) ({ cls := "TraceMachines", name := "ran", desc := "(I)I" } : Jvm.MethodName)) ∈ zW := zW_t (List.mem_of_getElem? (i := 755) (by decide +kernel)) rfl
theorem q756 : (Jvm.Cond.instanceMethod ({ cls := "TraceMachines", name := "ran", desc := "(I)I" } : Jvm.MethodName)) ∈ zW := zW_t (List.mem_of_getElem? (i := 756) (by decide +kernel)) rfl
theorem q757 : (Jvm.Cond.selects "TraceMachines" ({ cls := "TraceMachines", name := "ran", desc := "(I)I" } : Jvm.MethodName) ({ cls := "TraceMachines", name := "ran", desc := "(I)I" } : Jvm.MethodName)) ∈ zW := zW_t (List.mem_of_getElem? (i := 757) (by decide +kernel)) rfl
theorem q758 : (Jvm.Cond.code ({ cls := "TraceMachines", name := "ran", desc := "(I)I" } : Jvm.MethodName) prog_1_method_14_code (2 : Nat) (Option.some Jvm.ClassFile.FieldType.int)) ∈ zW := zW_t (List.mem_of_getElem? (i := 758) (by decide +kernel)) rfl
theorem q759 : (Jvm.Cond.methodLink "TraceMachinesLaw" (81 : Nat) ({ cls := "TraceMachines", name := "cover", desc := "(I)I" } : Jvm.MethodName)) ∈ zW := zW_t (List.mem_of_getElem? (i := 759) (by decide +kernel)) rfl
theorem q760 : (Jvm.Cond.instanceMethod ({ cls := "TraceMachines", name := "cover", desc := "(I)I" } : Jvm.MethodName)) ∈ zW := zW_t (List.mem_of_getElem? (i := 760) (by decide +kernel)) rfl
theorem q761 : (Jvm.Cond.selects "TraceMachines" ({ cls := "TraceMachines", name := "cover", desc := "(I)I" } : Jvm.MethodName) ({ cls := "TraceMachines", name := "cover", desc := "(I)I" } : Jvm.MethodName)) ∈ zW := zW_t (List.mem_of_getElem? (i := 761) (by decide +kernel)) rfl
theorem q762 : (Jvm.Cond.code ({ cls := "TraceMachines", name := "cover", desc := "(I)I" } : Jvm.MethodName) prog_1_method_15_code (3 : Nat) (Option.some Jvm.ClassFile.FieldType.int)) ∈ zW := zW_t (List.mem_of_getElem? (i := 762) (by decide +kernel)) rfl
theorem q763 : (Jvm.Cond.methodLink "TraceMachines" (262 : Nat) ({ cls := "TraceMachines$Cover", name := "find", desc := "(LTraceMachines$Traces;LTraceMachines$Tree;LTraceMachines$Machine;)V" } : Jvm.MethodName)) ∈ zW := zW_t (List.mem_of_getElem? (i := 763) (by decide +kernel)) rfl
theorem q764 : (Jvm.Cond.instanceMethod ({ cls := "TraceMachines$Cover", name := "find", desc := "(LTraceMachines$Traces;LTraceMachines$Tree;LTraceMachines$Machine;)V" } : Jvm.MethodName)) ∈ zW := zW_t (List.mem_of_getElem? (i := 764) (by decide +kernel)) rfl
theorem q765 : (Jvm.Cond.selects "TraceMachines$Cover" ({ cls := "TraceMachines$Cover", name := "find", desc := "(LTraceMachines$Traces;LTraceMachines$Tree;LTraceMachines$Machine;)V" } : Jvm.MethodName) ({ cls := "TraceMachines$Cover", name := "find", desc := "(LTraceMachines$Traces;LTraceMachines$Tree;LTraceMachines$Machine;)V" } : Jvm.MethodName)) ∈ zW := zW_t (List.mem_of_getElem? (i := 765) (by decide +kernel)) rfl
theorem q766 : (Jvm.Cond.code ({ cls := "TraceMachines$Cover", name := "find", desc := "(LTraceMachines$Traces;LTraceMachines$Tree;LTraceMachines$Machine;)V" } : Jvm.MethodName) prog_2_method_2_code (4 : Nat) (Option.none : Option Jvm.ClassFile.FieldType)) ∈ zW := zW_t (List.mem_of_getElem? (i := 766) (by decide +kernel)) rfl
theorem q767 : (Jvm.Cond.methodLink "TraceMachines$Cover" (19 : Nat) ({ cls := "TraceMachines$Cover", name := "gather", desc := "(LTraceMachines$Traces;LTraceMachines$Tree;LTraceMachines$Machine;)V" } : Jvm.MethodName)) ∈ zW := zW_t (List.mem_of_getElem? (i := 767) (by decide +kernel)) rfl
theorem q769 : (Jvm.Cond.instanceMethod ({ cls := "TraceMachines$Cover", name := "gather", desc := "(LTraceMachines$Traces;LTraceMachines$Tree;LTraceMachines$Machine;)V" } : Jvm.MethodName)) ∈ zW := zW_t (List.mem_of_getElem? (i := 769) (by decide +kernel)) rfl
theorem q770 : (Jvm.Cond.code ({ cls := "TraceMachines$Cover", name := "gather", desc := "(LTraceMachines$Traces;LTraceMachines$Tree;LTraceMachines$Machine;)V" } : Jvm.MethodName) prog_2_method_3_code (6 : Nat) (Option.none : Option Jvm.ClassFile.FieldType)) ∈ zW := zW_t (List.mem_of_getElem? (i := 770) (by decide +kernel)) rfl
theorem q771 : (Jvm.Cond.methodLink "TraceMachines$Cover" (48 : Nat) ({ cls := "java/util/Arrays", name := "fill", desc := "([II)V" } : Jvm.MethodName)) ∈ zW := zW_t (List.mem_of_getElem? (i := 771) (by decide +kernel)) rfl
theorem q772 : (Jvm.Cond.methodLink "TraceMachines$Cover" (60 : Nat) ({ cls := "TraceMachines$Tree", name := "prefixAt", desc := "(II)I" } : Jvm.MethodName)) ∈ zW := zW_t (List.mem_of_getElem? (i := 772) (by decide +kernel)) rfl
theorem q773 : (Jvm.Cond.methodLink "TraceMachines$Cover" (23 : Nat) ({ cls := "TraceMachines$Cover", name := "leaveOutImplied", desc := "()V" } : Jvm.MethodName)) ∈ zW := zW_t (List.mem_of_getElem? (i := 773) (by decide +kernel)) rfl
theorem q775 : (Jvm.Cond.instanceMethod ({ cls := "TraceMachines$Cover", name := "leaveOutImplied", desc := "()V" } : Jvm.MethodName)) ∈ zW := zW_t (List.mem_of_getElem? (i := 775) (by decide +kernel)) rfl
theorem q776 : (Jvm.Cond.code ({ cls := "TraceMachines$Cover", name := "leaveOutImplied", desc := "()V" } : Jvm.MethodName) prog_2_method_4_code (3 : Nat) (Option.none : Option Jvm.ClassFile.FieldType)) ∈ zW := zW_t (List.mem_of_getElem? (i := 776) (by decide +kernel)) rfl
theorem q777 : (Jvm.Cond.methodLink "TraceMachines$Cover" (66 : Nat) ({ cls := "TraceMachines$Cover", name := "isImplied", desc := "(II)Z" } : Jvm.MethodName)) ∈ zW := zW_t (List.mem_of_getElem? (i := 777) (by decide +kernel)) rfl
theorem q779 : (Jvm.Cond.instanceMethod ({ cls := "TraceMachines$Cover", name := "isImplied", desc := "(II)Z" } : Jvm.MethodName)) ∈ zW := zW_t (List.mem_of_getElem? (i := 779) (by decide +kernel)) rfl
theorem q780 : (Jvm.Cond.code ({ cls := "TraceMachines$Cover", name := "isImplied", desc := "(II)Z" } : Jvm.MethodName) prog_2_method_5_code (4 : Nat) (Option.some Jvm.ClassFile.FieldType.boolean)) ∈ zW := zW_t (List.mem_of_getElem? (i := 780) (by decide +kernel)) rfl
theorem q781 : (Jvm.Cond.methodLink "TraceMachines$Cover" (38 : Nat) ({ cls := "TraceMachines$Cover", name := "search", desc := "(III)V" } : Jvm.MethodName)) ∈ zW := zW_t (List.mem_of_getElem? (i := 781) (by decide +kernel)) rfl
theorem q783 : (Jvm.Cond.instanceMethod ({ cls := "TraceMachines$Cover", name := "search", desc := "(III)V" } : Jvm.MethodName)) ∈ zW := zW_t (List.mem_of_getElem? (i := 783) (by decide +kernel)) rfl
theorem q784 : (Jvm.Cond.code ({ cls := "TraceMachines$Cover", name := "search", desc := "(III)V" } : Jvm.MethodName) prog_2_method_6_code (8 : Nat) (Option.none : Option Jvm.ClassFile.FieldType)) ∈ zW := zW_t (List.mem_of_getElem? (i := 784) (by decide +kernel)) rfl
theorem q785 : (Jvm.Cond.methodLink "TraceMachines$Cover" (70 : Nat) ({ cls := "TraceMachines$Cover", name := "hardest", desc := "(II)I" } : Jvm.MethodName)) ∈ zW := zW_t (List.mem_of_getElem? (i := 785) (by decide +kernel)) rfl
theorem q787 : (Jvm.Cond.instanceMethod ({ cls := "TraceMachines$Cover", name := "hardest", desc := "(II)I" } : Jvm.MethodName)) ∈ zW := zW_t (List.mem_of_getElem? (i := 787) (by decide +kernel)) rfl
theorem q788 : (Jvm.Cond.code ({ cls := "TraceMachines$Cover", name := "hardest", desc := "(II)I" } : Jvm.MethodName) prog_2_method_7_code (7 : Nat) (Option.some Jvm.ClassFile.FieldType.int)) ∈ zW := zW_t (List.mem_of_getElem? (i := 788) (by decide +kernel)) rfl
theorem q789 : (Jvm.Cond.methodLink "TraceMachines$Cover" (73 : Nat) ({ cls := "java/lang/Integer", name := "bitCount", desc := "(I)I" } : Jvm.MethodName)) ∈ zW := zW_t (List.mem_of_getElem? (i := 789) (by decide +kernel)) rfl
theorem q790 : (Jvm.Cond.static ({ cls := "java/lang/Integer", name := "bitCount", desc := "(I)I" } : Jvm.MethodName)) ∈ zW := zW_t (List.mem_of_getElem? (i := 790) (by decide +kernel)) rfl
theorem q791 : (Jvm.Cond.code ({ cls := "java/lang/Integer", name := "bitCount", desc := "(I)I" } : Jvm.MethodName) prog_17_method_49_code (1 : Nat) (Option.some Jvm.ClassFile.FieldType.int)) ∈ zW := zW_t (List.mem_of_getElem? (i := 791) (by decide +kernel)) rfl
theorem q792 : (Jvm.Cond.constant "java/lang/Integer" (265 : Nat) (1431655765 : Int32)) ∈ zW := zW_t (List.mem_of_getElem? (i := 792) (by decide +kernel)) rfl
theorem q793 : (Jvm.Cond.constant "java/lang/Integer" (266 : Nat) (858993459 : Int32)) ∈ zW := zW_t (List.mem_of_getElem? (i := 793) (by decide +kernel)) rfl
theorem q794 : (Jvm.Cond.constant "java/lang/Integer" (267 : Nat) (252645135 : Int32)) ∈ zW := zW_t (List.mem_of_getElem? (i := 794) (by decide +kernel)) rfl
theorem q795 : (Jvm.Cond.methodLink "TraceMachines" (269 : Nat) ({ cls := "java/lang/Integer", name := "bitCount", desc := "(I)I" } : Jvm.MethodName)) ∈ zW := zW_t (List.mem_of_getElem? (i := 795) (by decide +kernel)) rfl
theorem q796 : (Jvm.Cond.methodLink "TraceMachinesLaw" (85 : Nat) ({ cls := "TraceMachines", name := "ways", desc := "(I)I" } : Jvm.MethodName)) ∈ zW := zW_t (List.mem_of_getElem? (i := 796) (by decide +kernel)) rfl
theorem q797 : (Jvm.Cond.instanceMethod ({ cls := "TraceMachines", name := "ways", desc := "(I)I" } : Jvm.MethodName)) ∈ zW := zW_t (List.mem_of_getElem? (i := 797) (by decide +kernel)) rfl
theorem q798 : (Jvm.Cond.selects "TraceMachines" ({ cls := "TraceMachines", name := "ways", desc := "(I)I" } : Jvm.MethodName) ({ cls := "TraceMachines", name := "ways", desc := "(I)I" } : Jvm.MethodName)) ∈ zW := zW_t (List.mem_of_getElem? (i := 798) (by decide +kernel)) rfl
theorem q799 : (Jvm.Cond.code ({ cls := "TraceMachines", name := "ways", desc := "(I)I" } : Jvm.MethodName) prog_1_method_16_code (2 : Nat) (Option.some Jvm.ClassFile.FieldType.int)) ∈ zW := zW_t (List.mem_of_getElem? (i := 799) (by decide +kernel)) rfl
theorem q800 : (Jvm.Cond.methodLink "TraceMachines" (274 : Nat) ({ cls := "TraceMachines$Words", name := "waysOf", desc := "(LTraceMachines$Traces;ILTraceMachines$Machine;)I" } : Jvm.MethodName)) ∈ zW := zW_t (List.mem_of_getElem? (i := 800) (by decide +kernel)) rfl
theorem q801 : (Jvm.Cond.instanceMethod ({ cls := "TraceMachines$Words", name := "waysOf", desc := "(LTraceMachines$Traces;ILTraceMachines$Machine;)I" } : Jvm.MethodName)) ∈ zW := zW_t (List.mem_of_getElem? (i := 801) (by decide +kernel)) rfl
theorem q802 : (Jvm.Cond.selects "TraceMachines$Words" ({ cls := "TraceMachines$Words", name := "waysOf", desc := "(LTraceMachines$Traces;ILTraceMachines$Machine;)I" } : Jvm.MethodName) ({ cls := "TraceMachines$Words", name := "waysOf", desc := "(LTraceMachines$Traces;ILTraceMachines$Machine;)I" } : Jvm.MethodName)) ∈ zW := zW_t (List.mem_of_getElem? (i := 802) (by decide +kernel)) rfl
theorem q803 : (Jvm.Cond.code ({ cls := "TraceMachines$Words", name := "waysOf", desc := "(LTraceMachines$Traces;ILTraceMachines$Machine;)I" } : Jvm.MethodName) prog_12_method_6_code (6 : Nat) (Option.some Jvm.ClassFile.FieldType.int)) ∈ zW := zW_t (List.mem_of_getElem? (i := 803) (by decide +kernel)) rfl
theorem q804 : (Jvm.Cond.methodLink "TraceMachines$Words" (88 : Nat) ({ cls := "java/util/Arrays", name := "fill", desc := "([II)V" } : Jvm.MethodName)) ∈ zW := zW_t (List.mem_of_getElem? (i := 804) (by decide +kernel)) rfl
theorem q805 : (Jvm.Cond.methodLink "TraceMachines$Words" (99 : Nat) ({ cls := "TraceMachines$Traces", name := "letterAt", desc := "(II)I" } : Jvm.MethodName)) ∈ zW := zW_t (List.mem_of_getElem? (i := 805) (by decide +kernel)) rfl
theorem q806 : (Jvm.Cond.methodLink "TraceMachines$Words" (103 : Nat) ({ cls := "TraceMachines$Words", name := "stepWays", desc := "(LTraceMachines$Machine;I)V" } : Jvm.MethodName)) ∈ zW := zW_t (List.mem_of_getElem? (i := 806) (by decide +kernel)) rfl
theorem q808 : (Jvm.Cond.instanceMethod ({ cls := "TraceMachines$Words", name := "stepWays", desc := "(LTraceMachines$Machine;I)V" } : Jvm.MethodName)) ∈ zW := zW_t (List.mem_of_getElem? (i := 808) (by decide +kernel)) rfl
theorem q809 : (Jvm.Cond.code ({ cls := "TraceMachines$Words", name := "stepWays", desc := "(LTraceMachines$Machine;I)V" } : Jvm.MethodName) prog_12_method_7_code (5 : Nat) (Option.none : Option Jvm.ClassFile.FieldType)) ∈ zW := zW_t (List.mem_of_getElem? (i := 809) (by decide +kernel)) rfl
theorem q810 : (Jvm.Cond.methodLink "TraceMachines$Words" (119 : Nat) ({ cls := "TraceMachines$Machine", name := "letter", desc := "(I)I" } : Jvm.MethodName)) ∈ zW := zW_t (List.mem_of_getElem? (i := 810) (by decide +kernel)) rfl
theorem q811 : (Jvm.Cond.methodLink "TraceMachines$Words" (123 : Nat) ({ cls := "TraceMachines$Machine", name := "to", desc := "(I)I" } : Jvm.MethodName)) ∈ zW := zW_t (List.mem_of_getElem? (i := 811) (by decide +kernel)) rfl
theorem q812 : (Jvm.Cond.methodLink "TraceMachines$Words" (126 : Nat) ({ cls := "TraceMachines$Machine", name := "from", desc := "(I)I" } : Jvm.MethodName)) ∈ zW := zW_t (List.mem_of_getElem? (i := 812) (by decide +kernel)) rfl
theorem q813 : (Jvm.Cond.constant "TraceMachines$Words" (110 : Nat) (1000000 : Int32)) ∈ zW := zW_t (List.mem_of_getElem? (i := 813) (by decide +kernel)) rfl
theorem q814 : (Jvm.Cond.methodLink "TraceMachines$Words" (111 : Nat) ({ cls := "java/lang/Math", name := "min", desc := "(II)I" } : Jvm.MethodName)) ∈ zW := zW_t (List.mem_of_getElem? (i := 814) (by decide +kernel)) rfl
theorem q815 : (Jvm.Cond.methodLink "TraceMachinesLaw" (89 : Nat) ({ cls := "TraceMachines", name := "words", desc := "(I)I" } : Jvm.MethodName)) ∈ zW := zW_t (List.mem_of_getElem? (i := 815) (by decide +kernel)) rfl
theorem q816 : (Jvm.Cond.instanceMethod ({ cls := "TraceMachines", name := "words", desc := "(I)I" } : Jvm.MethodName)) ∈ zW := zW_t (List.mem_of_getElem? (i := 816) (by decide +kernel)) rfl
theorem q817 : (Jvm.Cond.selects "TraceMachines" ({ cls := "TraceMachines", name := "words", desc := "(I)I" } : Jvm.MethodName) ({ cls := "TraceMachines", name := "words", desc := "(I)I" } : Jvm.MethodName)) ∈ zW := zW_t (List.mem_of_getElem? (i := 817) (by decide +kernel)) rfl
theorem q818 : (Jvm.Cond.code ({ cls := "TraceMachines", name := "words", desc := "(I)I" } : Jvm.MethodName) prog_1_method_17_code (2 : Nat) (Option.some Jvm.ClassFile.FieldType.int)) ∈ zW := zW_t (List.mem_of_getElem? (i := 818) (by decide +kernel)) rfl
theorem q819 : (Jvm.Cond.methodLink "TraceMachines" (278 : Nat) ({ cls := "TraceMachines$Words", name := "number", desc := "(LTraceMachines$Machine;I)I" } : Jvm.MethodName)) ∈ zW := zW_t (List.mem_of_getElem? (i := 819) (by decide +kernel)) rfl
theorem q820 : (Jvm.Cond.instanceMethod ({ cls := "TraceMachines$Words", name := "number", desc := "(LTraceMachines$Machine;I)I" } : Jvm.MethodName)) ∈ zW := zW_t (List.mem_of_getElem? (i := 820) (by decide +kernel)) rfl
theorem q821 : (Jvm.Cond.selects "TraceMachines$Words" ({ cls := "TraceMachines$Words", name := "number", desc := "(LTraceMachines$Machine;I)I" } : Jvm.MethodName) ({ cls := "TraceMachines$Words", name := "number", desc := "(LTraceMachines$Machine;I)I" } : Jvm.MethodName)) ∈ zW := zW_t (List.mem_of_getElem? (i := 821) (by decide +kernel)) rfl
theorem q822 : (Jvm.Cond.code ({ cls := "TraceMachines$Words", name := "number", desc := "(LTraceMachines$Machine;I)I" } : Jvm.MethodName) prog_12_method_2_code (4 : Nat) (Option.some Jvm.ClassFile.FieldType.int)) ∈ zW := zW_t (List.mem_of_getElem? (i := 822) (by decide +kernel)) rfl
theorem q823 : (Jvm.Cond.methodLink "TraceMachines$Words" (48 : Nat) ({ cls := "TraceMachines$StateSets", name := "clear", desc := "()V" } : Jvm.MethodName)) ∈ zW := zW_t (List.mem_of_getElem? (i := 823) (by decide +kernel)) rfl
theorem q824 : (Jvm.Cond.methodLink "TraceMachines$Words" (51 : Nat) ({ cls := "TraceMachines$StateSets", name := "put", desc := "(III)V" } : Jvm.MethodName)) ∈ zW := zW_t (List.mem_of_getElem? (i := 824) (by decide +kernel)) rfl
theorem q825 : (Jvm.Cond.methodLink "TraceMachines$Words" (55 : Nat) ({ cls := "TraceMachines$StateSets", name := "forget", desc := "()V" } : Jvm.MethodName)) ∈ zW := zW_t (List.mem_of_getElem? (i := 825) (by decide +kernel)) rfl
theorem q826 : (Jvm.Cond.instanceMethod ({ cls := "TraceMachines$StateSets", name := "forget", desc := "()V" } : Jvm.MethodName)) ∈ zW := zW_t (List.mem_of_getElem? (i := 826) (by decide +kernel)) rfl
theorem q827 : (Jvm.Cond.selects "TraceMachines$StateSets" ({ cls := "TraceMachines$StateSets", name := "forget", desc := "()V" } : Jvm.MethodName) ({ cls := "TraceMachines$StateSets", name := "forget", desc := "()V" } : Jvm.MethodName)) ∈ zW := zW_t (List.mem_of_getElem? (i := 827) (by decide +kernel)) rfl
theorem q828 : (Jvm.Cond.code ({ cls := "TraceMachines$StateSets", name := "forget", desc := "()V" } : Jvm.MethodName) prog_8_method_2_code (1 : Nat) (Option.none : Option Jvm.ClassFile.FieldType)) ∈ zW := zW_t (List.mem_of_getElem? (i := 828) (by decide +kernel)) rfl
theorem q829 : (Jvm.Cond.methodLink "TraceMachines$StateSets" (29 : Nat) ({ cls := "java/util/Arrays", name := "fill", desc := "([II)V" } : Jvm.MethodName)) ∈ zW := zW_t (List.mem_of_getElem? (i := 829) (by decide +kernel)) rfl
theorem q830 : (Jvm.Cond.methodLink "TraceMachines$Words" (58 : Nat) ({ cls := "TraceMachines$StateSets", name := "indexOf", desc := "(LTraceMachines$StateSets;I)I" } : Jvm.MethodName)) ∈ zW := zW_t (List.mem_of_getElem? (i := 830) (by decide +kernel)) rfl
theorem q831 : (Jvm.Cond.instanceMethod ({ cls := "TraceMachines$StateSets", name := "indexOf", desc := "(LTraceMachines$StateSets;I)I" } : Jvm.MethodName)) ∈ zW := zW_t (List.mem_of_getElem? (i := 831) (by decide +kernel)) rfl
theorem q832 : (Jvm.Cond.selects "TraceMachines$StateSets" ({ cls := "TraceMachines$StateSets", name := "indexOf", desc := "(LTraceMachines$StateSets;I)I" } : Jvm.MethodName) ({ cls := "TraceMachines$StateSets", name := "indexOf", desc := "(LTraceMachines$StateSets;I)I" } : Jvm.MethodName)) ∈ zW := zW_t (List.mem_of_getElem? (i := 832) (by decide +kernel)) rfl
theorem q833 : (Jvm.Cond.code ({ cls := "TraceMachines$StateSets", name := "indexOf", desc := "(LTraceMachines$StateSets;I)I" } : Jvm.MethodName) prog_8_method_11_code (7 : Nat) (Option.some Jvm.ClassFile.FieldType.int)) ∈ zW := zW_t (List.mem_of_getElem? (i := 833) (by decide +kernel)) rfl
theorem q834 : (Jvm.Cond.methodLink "TraceMachines$StateSets" (47 : Nat) ({ cls := "TraceMachines$StateSets", name := "hashOf", desc := "(I)I" } : Jvm.MethodName)) ∈ zW := zW_t (List.mem_of_getElem? (i := 834) (by decide +kernel)) rfl
theorem q836 : (Jvm.Cond.instanceMethod ({ cls := "TraceMachines$StateSets", name := "hashOf", desc := "(I)I" } : Jvm.MethodName)) ∈ zW := zW_t (List.mem_of_getElem? (i := 836) (by decide +kernel)) rfl
theorem q837 : (Jvm.Cond.code ({ cls := "TraceMachines$StateSets", name := "hashOf", desc := "(I)I" } : Jvm.MethodName) prog_8_method_13_code (5 : Nat) (Option.some Jvm.ClassFile.FieldType.int)) ∈ zW := zW_t (List.mem_of_getElem? (i := 837) (by decide +kernel)) rfl
theorem q838 : (Jvm.Cond.constantLong "TraceMachines$StateSets" (65 : Nat) (-7046029254386353131 : Int64)) ∈ zW := zW_t (List.mem_of_getElem? (i := 838) (by decide +kernel)) rfl
theorem q839 : (Jvm.Cond.methodLink "TraceMachines$StateSets" (51 : Nat) ({ cls := "TraceMachines$StateSets", name := "append", desc := "(LTraceMachines$StateSets;II)I" } : Jvm.MethodName)) ∈ zW := zW_t (List.mem_of_getElem? (i := 839) (by decide +kernel)) rfl
theorem q841 : (Jvm.Cond.instanceMethod ({ cls := "TraceMachines$StateSets", name := "append", desc := "(LTraceMachines$StateSets;II)I" } : Jvm.MethodName)) ∈ zW := zW_t (List.mem_of_getElem? (i := 841) (by decide +kernel)) rfl
theorem q842 : (Jvm.Cond.code ({ cls := "TraceMachines$StateSets", name := "append", desc := "(LTraceMachines$StateSets;II)I" } : Jvm.MethodName) prog_8_method_12_code (4 : Nat) (Option.some Jvm.ClassFile.FieldType.int)) ∈ zW := zW_t (List.mem_of_getElem? (i := 842) (by decide +kernel)) rfl
theorem q843 : (Jvm.Cond.methodLink "TraceMachines$StateSets" (59 : Nat) ({ cls := "java/lang/System", name := "arraycopy", desc := "(Ljava/lang/Object;ILjava/lang/Object;II)V" } : Jvm.MethodName)) ∈ zW := zW_t (List.mem_of_getElem? (i := 843) (by decide +kernel)) rfl
theorem q844 : (Jvm.Cond.methodLink "TraceMachines$StateSets" (55 : Nat) ({ cls := "TraceMachines$StateSets", name := "isLike", desc := "(ILTraceMachines$StateSets;I)Z" } : Jvm.MethodName)) ∈ zW := zW_t (List.mem_of_getElem? (i := 844) (by decide +kernel)) rfl
theorem q846 : (Jvm.Cond.instanceMethod ({ cls := "TraceMachines$StateSets", name := "isLike", desc := "(ILTraceMachines$StateSets;I)Z" } : Jvm.MethodName)) ∈ zW := zW_t (List.mem_of_getElem? (i := 846) (by decide +kernel)) rfl
theorem q847 : (Jvm.Cond.code ({ cls := "TraceMachines$StateSets", name := "isLike", desc := "(ILTraceMachines$StateSets;I)Z" } : Jvm.MethodName) prog_8_method_14_code (5 : Nat) (Option.some Jvm.ClassFile.FieldType.boolean)) ∈ zW := zW_t (List.mem_of_getElem? (i := 847) (by decide +kernel)) rfl
theorem q848 : (Jvm.Cond.methodLink "TraceMachines$Words" (62 : Nat) ({ cls := "TraceMachines$Machine", name := "takes", desc := "(LTraceMachines$StateSets;II)Z" } : Jvm.MethodName)) ∈ zW := zW_t (List.mem_of_getElem? (i := 848) (by decide +kernel)) rfl
theorem q849 : (Jvm.Cond.methodLink "TraceMachines$Words" (66 : Nat) ({ cls := "TraceMachines$Words", name := "goOn", desc := "(LTraceMachines$Machine;)Z" } : Jvm.MethodName)) ∈ zW := zW_t (List.mem_of_getElem? (i := 849) (by decide +kernel)) rfl
theorem q851 : (Jvm.Cond.instanceMethod ({ cls := "TraceMachines$Words", name := "goOn", desc := "(LTraceMachines$Machine;)Z" } : Jvm.MethodName)) ∈ zW := zW_t (List.mem_of_getElem? (i := 851) (by decide +kernel)) rfl
theorem q852 : (Jvm.Cond.code ({ cls := "TraceMachines$Words", name := "goOn", desc := "(LTraceMachines$Machine;)Z" } : Jvm.MethodName) prog_12_method_3_code (4 : Nat) (Option.some Jvm.ClassFile.FieldType.boolean)) ∈ zW := zW_t (List.mem_of_getElem? (i := 852) (by decide +kernel)) rfl
theorem q853 : (Jvm.Cond.methodLink "TraceMachines$Words" (77 : Nat) ({ cls := "TraceMachines$Machine", name := "fan", desc := "(LTraceMachines$StateSets;IILTraceMachines$StateSets;)V" } : Jvm.MethodName)) ∈ zW := zW_t (List.mem_of_getElem? (i := 853) (by decide +kernel)) rfl
theorem q854 : (Jvm.Cond.instanceMethod ({ cls := "TraceMachines$Machine", name := "fan", desc := "(LTraceMachines$StateSets;IILTraceMachines$StateSets;)V" } : Jvm.MethodName)) ∈ zW := zW_t (List.mem_of_getElem? (i := 854) (by decide +kernel)) rfl
theorem q855 : (Jvm.Cond.selects "TraceMachines$Machine" ({ cls := "TraceMachines$Machine", name := "fan", desc := "(LTraceMachines$StateSets;IILTraceMachines$StateSets;)V" } : Jvm.MethodName) ({ cls := "TraceMachines$Machine", name := "fan", desc := "(LTraceMachines$StateSets;IILTraceMachines$StateSets;)V" } : Jvm.MethodName)) ∈ zW := zW_t (List.mem_of_getElem? (i := 855) (by decide +kernel)) rfl
theorem q856 : (Jvm.Cond.code ({ cls := "TraceMachines$Machine", name := "fan", desc := "(LTraceMachines$StateSets;IILTraceMachines$StateSets;)V" } : Jvm.MethodName) prog_4_method_17_code (10 : Nat) (Option.none : Option Jvm.ClassFile.FieldType)) ∈ zW := zW_t (List.mem_of_getElem? (i := 856) (by decide +kernel)) rfl
theorem q857 : (Jvm.Cond.methodLink "TraceMachines$Words" (80 : Nat) ({ cls := "TraceMachines$StateSets", name := "isEmpty", desc := "(I)Z" } : Jvm.MethodName)) ∈ zW := zW_t (List.mem_of_getElem? (i := 857) (by decide +kernel)) rfl
theorem q858 : (Jvm.Cond.methodLink "TraceMachines$Words" (84 : Nat) ({ cls := "TraceMachines$Words", name := "comeTo", desc := "(II)Z" } : Jvm.MethodName)) ∈ zW := zW_t (List.mem_of_getElem? (i := 858) (by decide +kernel)) rfl
theorem q860 : (Jvm.Cond.instanceMethod ({ cls := "TraceMachines$Words", name := "comeTo", desc := "(II)Z" } : Jvm.MethodName)) ∈ zW := zW_t (List.mem_of_getElem? (i := 860) (by decide +kernel)) rfl
theorem q861 : (Jvm.Cond.code ({ cls := "TraceMachines$Words", name := "comeTo", desc := "(II)Z" } : Jvm.MethodName) prog_12_method_4_code (5 : Nat) (Option.some Jvm.ClassFile.FieldType.boolean)) ∈ zW := zW_t (List.mem_of_getElem? (i := 861) (by decide +kernel)) rfl
theorem q862 : (Jvm.Cond.methodLink "TraceMachines$Words" (70 : Nat) ({ cls := "TraceMachines$Words", name := "takenNext", desc := "(LTraceMachines$Machine;)I" } : Jvm.MethodName)) ∈ zW := zW_t (List.mem_of_getElem? (i := 862) (by decide +kernel)) rfl
theorem q864 : (Jvm.Cond.instanceMethod ({ cls := "TraceMachines$Words", name := "takenNext", desc := "(LTraceMachines$Machine;)I" } : Jvm.MethodName)) ∈ zW := zW_t (List.mem_of_getElem? (i := 864) (by decide +kernel)) rfl
theorem q865 : (Jvm.Cond.code ({ cls := "TraceMachines$Words", name := "takenNext", desc := "(LTraceMachines$Machine;)I" } : Jvm.MethodName) prog_12_method_5_code (5 : Nat) (Option.some Jvm.ClassFile.FieldType.int)) ∈ zW := zW_t (List.mem_of_getElem? (i := 865) (by decide +kernel)) rfl
theorem q866 : (Jvm.Cond.methodLink "TraceMachinesLaw" (93 : Nat) ({ cls := "TraceMachines", name := "apart", desc := "(III)I" } : Jvm.MethodName)) ∈ zW := zW_t (List.mem_of_getElem? (i := 866) (by decide +kernel)) rfl
theorem q867 : (Jvm.Cond.instanceMethod ({ cls := "TraceMachines", name := "apart", desc := "(III)I" } : Jvm.MethodName)) ∈ zW := zW_t (List.mem_of_getElem? (i := 867) (by decide +kernel)) rfl
theorem q868 : (Jvm.Cond.selects "TraceMachines" ({ cls := "TraceMachines", name := "apart", desc := "(III)I" } : Jvm.MethodName) ({ cls := "TraceMachines", name := "apart", desc := "(III)I" } : Jvm.MethodName)) ∈ zW := zW_t (List.mem_of_getElem? (i := 868) (by decide +kernel)) rfl
theorem q869 : (Jvm.Cond.code ({ cls := "TraceMachines", name := "apart", desc := "(III)I" } : Jvm.MethodName) prog_1_method_18_code (5 : Nat) (Option.some Jvm.ClassFile.FieldType.int)) ∈ zW := zW_t (List.mem_of_getElem? (i := 869) (by decide +kernel)) rfl
theorem q870 : (Jvm.Cond.methodLink "TraceMachines" (282 : Nat) ({ cls := "TraceMachines$Parting", name := "isOf", desc := "(II)Z" } : Jvm.MethodName)) ∈ zW := zW_t (List.mem_of_getElem? (i := 870) (by decide +kernel)) rfl
theorem q871 : (Jvm.Cond.instanceMethod ({ cls := "TraceMachines$Parting", name := "isOf", desc := "(II)Z" } : Jvm.MethodName)) ∈ zW := zW_t (List.mem_of_getElem? (i := 871) (by decide +kernel)) rfl
theorem q872 : (Jvm.Cond.selects "TraceMachines$Parting" ({ cls := "TraceMachines$Parting", name := "isOf", desc := "(II)Z" } : Jvm.MethodName) ({ cls := "TraceMachines$Parting", name := "isOf", desc := "(II)Z" } : Jvm.MethodName)) ∈ zW := zW_t (List.mem_of_getElem? (i := 872) (by decide +kernel)) rfl
theorem q873 : (Jvm.Cond.code ({ cls := "TraceMachines$Parting", name := "isOf", desc := "(II)Z" } : Jvm.MethodName) prog_7_method_2_code (3 : Nat) (Option.some Jvm.ClassFile.FieldType.boolean)) ∈ zW := zW_t (List.mem_of_getElem? (i := 873) (by decide +kernel)) rfl
theorem q874 : (Jvm.Cond.methodLink "TraceMachines" (286 : Nat) ({ cls := "TraceMachines$Parting", name := "find", desc := "(LTraceMachines$Machine;LTraceMachines$Machine;)V" } : Jvm.MethodName)) ∈ zW := zW_t (List.mem_of_getElem? (i := 874) (by decide +kernel)) rfl
theorem q875 : (Jvm.Cond.instanceMethod ({ cls := "TraceMachines$Parting", name := "find", desc := "(LTraceMachines$Machine;LTraceMachines$Machine;)V" } : Jvm.MethodName)) ∈ zW := zW_t (List.mem_of_getElem? (i := 875) (by decide +kernel)) rfl
theorem q876 : (Jvm.Cond.selects "TraceMachines$Parting" ({ cls := "TraceMachines$Parting", name := "find", desc := "(LTraceMachines$Machine;LTraceMachines$Machine;)V" } : Jvm.MethodName) ({ cls := "TraceMachines$Parting", name := "find", desc := "(LTraceMachines$Machine;LTraceMachines$Machine;)V" } : Jvm.MethodName)) ∈ zW := zW_t (List.mem_of_getElem? (i := 876) (by decide +kernel)) rfl
theorem q877 : (Jvm.Cond.code ({ cls := "TraceMachines$Parting", name := "find", desc := "(LTraceMachines$Machine;LTraceMachines$Machine;)V" } : Jvm.MethodName) prog_7_method_4_code (4 : Nat) (Option.none : Option Jvm.ClassFile.FieldType)) ∈ zW := zW_t (List.mem_of_getElem? (i := 877) (by decide +kernel)) rfl
theorem q878 : (Jvm.Cond.methodLink "TraceMachines$Parting" (50 : Nat) ({ cls := "TraceMachines$Parting", name := "begin", desc := "(LTraceMachines$Machine;LTraceMachines$Machine;)V" } : Jvm.MethodName)) ∈ zW := zW_t (List.mem_of_getElem? (i := 878) (by decide +kernel)) rfl
theorem q880 : (Jvm.Cond.instanceMethod ({ cls := "TraceMachines$Parting", name := "begin", desc := "(LTraceMachines$Machine;LTraceMachines$Machine;)V" } : Jvm.MethodName)) ∈ zW := zW_t (List.mem_of_getElem? (i := 880) (by decide +kernel)) rfl
theorem q881 : (Jvm.Cond.code ({ cls := "TraceMachines$Parting", name := "begin", desc := "(LTraceMachines$Machine;LTraceMachines$Machine;)V" } : Jvm.MethodName) prog_7_method_5_code (3 : Nat) (Option.none : Option Jvm.ClassFile.FieldType)) ∈ zW := zW_t (List.mem_of_getElem? (i := 881) (by decide +kernel)) rfl
theorem q882 : (Jvm.Cond.methodLink "TraceMachines$Parting" (71 : Nat) ({ cls := "TraceMachines$StateSets", name := "clear", desc := "()V" } : Jvm.MethodName)) ∈ zW := zW_t (List.mem_of_getElem? (i := 882) (by decide +kernel)) rfl
theorem q883 : (Jvm.Cond.methodLink "TraceMachines$Parting" (77 : Nat) ({ cls := "TraceMachines$StateSets", name := "put", desc := "(III)V" } : Jvm.MethodName)) ∈ zW := zW_t (List.mem_of_getElem? (i := 883) (by decide +kernel)) rfl
theorem q884 : (Jvm.Cond.methodLink "TraceMachines$Parting" (81 : Nat) ({ cls := "TraceMachines$StateSets", name := "forget", desc := "()V" } : Jvm.MethodName)) ∈ zW := zW_t (List.mem_of_getElem? (i := 884) (by decide +kernel)) rfl
theorem q885 : (Jvm.Cond.methodLink "TraceMachines$Parting" (84 : Nat) ({ cls := "TraceMachines$StateSets", name := "indexOf", desc := "(LTraceMachines$StateSets;I)I" } : Jvm.MethodName)) ∈ zW := zW_t (List.mem_of_getElem? (i := 885) (by decide +kernel)) rfl
theorem q886 : (Jvm.Cond.methodLink "TraceMachines$Parting" (57 : Nat) ({ cls := "TraceMachines$Machine", name := "takes", desc := "(LTraceMachines$StateSets;II)Z" } : Jvm.MethodName)) ∈ zW := zW_t (List.mem_of_getElem? (i := 886) (by decide +kernel)) rfl
theorem q887 : (Jvm.Cond.methodLink "TraceMachines$Parting" (63 : Nat) ({ cls := "TraceMachines$Parting", name := "spell", desc := "(I)V" } : Jvm.MethodName)) ∈ zW := zW_t (List.mem_of_getElem? (i := 887) (by decide +kernel)) rfl
theorem q889 : (Jvm.Cond.instanceMethod ({ cls := "TraceMachines$Parting", name := "spell", desc := "(I)V" } : Jvm.MethodName)) ∈ zW := zW_t (List.mem_of_getElem? (i := 889) (by decide +kernel)) rfl
theorem q890 : (Jvm.Cond.code ({ cls := "TraceMachines$Parting", name := "spell", desc := "(I)V" } : Jvm.MethodName) prog_7_method_7_code (4 : Nat) (Option.none : Option Jvm.ClassFile.FieldType)) ∈ zW := zW_t (List.mem_of_getElem? (i := 890) (by decide +kernel)) rfl
theorem q891 : (Jvm.Cond.methodLink "TraceMachines$Parting" (67 : Nat) ({ cls := "TraceMachines$Parting", name := "goOn", desc := "(LTraceMachines$Machine;LTraceMachines$Machine;I)Z" } : Jvm.MethodName)) ∈ zW := zW_t (List.mem_of_getElem? (i := 891) (by decide +kernel)) rfl
theorem q893 : (Jvm.Cond.instanceMethod ({ cls := "TraceMachines$Parting", name := "goOn", desc := "(LTraceMachines$Machine;LTraceMachines$Machine;I)Z" } : Jvm.MethodName)) ∈ zW := zW_t (List.mem_of_getElem? (i := 893) (by decide +kernel)) rfl
theorem q894 : (Jvm.Cond.code ({ cls := "TraceMachines$Parting", name := "goOn", desc := "(LTraceMachines$Machine;LTraceMachines$Machine;I)Z" } : Jvm.MethodName) prog_7_method_6_code (7 : Nat) (Option.some Jvm.ClassFile.FieldType.boolean)) ∈ zW := zW_t (List.mem_of_getElem? (i := 894) (by decide +kernel)) rfl
theorem q895 : (Jvm.Cond.methodLink "TraceMachines$Parting" (88 : Nat) ({ cls := "TraceMachines$Machine", name := "fan", desc := "(LTraceMachines$StateSets;IILTraceMachines$StateSets;)V" } : Jvm.MethodName)) ∈ zW := zW_t (List.mem_of_getElem? (i := 895) (by decide +kernel)) rfl
theorem q896 : (Jvm.Cond.methodLink "TraceMachines" (289 : Nat) ({ cls := "TraceMachines$Parting", name := "setOf", desc := "(II)V" } : Jvm.MethodName)) ∈ zW := zW_t (List.mem_of_getElem? (i := 896) (by decide +kernel)) rfl
theorem q897 : (Jvm.Cond.instanceMethod ({ cls := "TraceMachines$Parting", name := "setOf", desc := "(II)V" } : Jvm.MethodName)) ∈ zW := zW_t (List.mem_of_getElem? (i := 897) (by decide +kernel)) rfl
theorem q898 : (Jvm.Cond.selects "TraceMachines$Parting" ({ cls := "TraceMachines$Parting", name := "setOf", desc := "(II)V" } : Jvm.MethodName) ({ cls := "TraceMachines$Parting", name := "setOf", desc := "(II)V" } : Jvm.MethodName)) ∈ zW := zW_t (List.mem_of_getElem? (i := 898) (by decide +kernel)) rfl
theorem q899 : (Jvm.Cond.code ({ cls := "TraceMachines$Parting", name := "setOf", desc := "(II)V" } : Jvm.MethodName) prog_7_method_3_code (3 : Nat) (Option.none : Option Jvm.ClassFile.FieldType)) ∈ zW := zW_t (List.mem_of_getElem? (i := 899) (by decide +kernel)) rfl
theorem q900 : (Jvm.Cond.methodLink "TraceMachinesLaw" (97 : Nat) ({ cls := "TraceMachines", name := "walk", desc := "(II)I" } : Jvm.MethodName)) ∈ zW := zW_t (List.mem_of_getElem? (i := 900) (by decide +kernel)) rfl
theorem q901 : (Jvm.Cond.instanceMethod ({ cls := "TraceMachines", name := "walk", desc := "(II)I" } : Jvm.MethodName)) ∈ zW := zW_t (List.mem_of_getElem? (i := 901) (by decide +kernel)) rfl
theorem q902 : (Jvm.Cond.selects "TraceMachines" ({ cls := "TraceMachines", name := "walk", desc := "(II)I" } : Jvm.MethodName) ({ cls := "TraceMachines", name := "walk", desc := "(II)I" } : Jvm.MethodName)) ∈ zW := zW_t (List.mem_of_getElem? (i := 902) (by decide +kernel)) rfl
theorem q903 : (Jvm.Cond.code ({ cls := "TraceMachines", name := "walk", desc := "(II)I" } : Jvm.MethodName) prog_1_method_19_code (5 : Nat) (Option.some Jvm.ClassFile.FieldType.int)) ∈ zW := zW_t (List.mem_of_getElem? (i := 903) (by decide +kernel)) rfl
theorem q904 : (Jvm.Cond.constant "TraceMachines" (298 : Nat) (1000000 : Int32)) ∈ zW := zW_t (List.mem_of_getElem? (i := 904) (by decide +kernel)) rfl
theorem q905 : (Jvm.Cond.methodLink "TraceMachines" (299 : Nat) ({ cls := "TraceMachines$Words", name := "draw", desc := "(LTraceMachines$Machine;I)I" } : Jvm.MethodName)) ∈ zW := zW_t (List.mem_of_getElem? (i := 905) (by decide +kernel)) rfl
theorem q906 : (Jvm.Cond.instanceMethod ({ cls := "TraceMachines$Words", name := "draw", desc := "(LTraceMachines$Machine;I)I" } : Jvm.MethodName)) ∈ zW := zW_t (List.mem_of_getElem? (i := 906) (by decide +kernel)) rfl
theorem q907 : (Jvm.Cond.selects "TraceMachines$Words" ({ cls := "TraceMachines$Words", name := "draw", desc := "(LTraceMachines$Machine;I)I" } : Jvm.MethodName) ({ cls := "TraceMachines$Words", name := "draw", desc := "(LTraceMachines$Machine;I)I" } : Jvm.MethodName)) ∈ zW := zW_t (List.mem_of_getElem? (i := 907) (by decide +kernel)) rfl
theorem q908 : (Jvm.Cond.code ({ cls := "TraceMachines$Words", name := "draw", desc := "(LTraceMachines$Machine;I)I" } : Jvm.MethodName) prog_12_method_8_code (9 : Nat) (Option.some Jvm.ClassFile.FieldType.int)) ∈ zW := zW_t (List.mem_of_getElem? (i := 908) (by decide +kernel)) rfl
theorem q909 : (Jvm.Cond.methodLink "TraceMachines$Words" (129 : Nat) ({ cls := "TraceMachines$Machine", name := "leavers", desc := "(I)I" } : Jvm.MethodName)) ∈ zW := zW_t (List.mem_of_getElem? (i := 909) (by decide +kernel)) rfl
theorem q910 : (Jvm.Cond.constant "TraceMachines$Words" (132 : Nat) (1000003 : Int32)) ∈ zW := zW_t (List.mem_of_getElem? (i := 910) (by decide +kernel)) rfl
theorem q911 : (Jvm.Cond.methodLink "TraceMachinesLaw" (101 : Nat) ({ cls := "TraceMachines", name := "rule", desc := "(IIII)I" } : Jvm.MethodName)) ∈ zW := zW_t (List.mem_of_getElem? (i := 911) (by decide +kernel)) rfl
theorem q912 : (Jvm.Cond.instanceMethod ({ cls := "TraceMachines", name := "rule", desc := "(IIII)I" } : Jvm.MethodName)) ∈ zW := zW_t (List.mem_of_getElem? (i := 912) (by decide +kernel)) rfl
theorem q913 : (Jvm.Cond.selects "TraceMachines" ({ cls := "TraceMachines", name := "rule", desc := "(IIII)I" } : Jvm.MethodName) ({ cls := "TraceMachines", name := "rule", desc := "(IIII)I" } : Jvm.MethodName)) ∈ zW := zW_t (List.mem_of_getElem? (i := 913) (by decide +kernel)) rfl
theorem q914 : (Jvm.Cond.code ({ cls := "TraceMachines", name := "rule", desc := "(IIII)I" } : Jvm.MethodName) prog_1_method_20_code (5 : Nat) (Option.some Jvm.ClassFile.FieldType.int)) ∈ zW := zW_t (List.mem_of_getElem? (i := 914) (by decide +kernel)) rfl
theorem q915 : (Jvm.Cond.methodLink "TraceMachines" (305 : Nat) ({ cls := "TraceMachines", name := "isKind", desc := "(I)Z" } : Jvm.MethodName)) ∈ zW := zW_t (List.mem_of_getElem? (i := 915) (by decide +kernel)) rfl
theorem q916 : (Jvm.Cond.static ({ cls := "TraceMachines", name := "isKind", desc := "(I)Z" } : Jvm.MethodName)) ∈ zW := zW_t (List.mem_of_getElem? (i := 916) (by decide +kernel)) rfl
theorem q917 : (Jvm.Cond.code ({ cls := "TraceMachines", name := "isKind", desc := "(I)Z" } : Jvm.MethodName) prog_1_method_31_code (1 : Nat) (Option.some Jvm.ClassFile.FieldType.boolean)) ∈ zW := zW_t (List.mem_of_getElem? (i := 917) (by decide +kernel)) rfl
theorem q918 : (Jvm.Cond.methodLink "TraceMachines" (308 : Nat) ({ cls := "TraceMachines", name := "isLetter", desc := "(I)Z" } : Jvm.MethodName)) ∈ zW := zW_t (List.mem_of_getElem? (i := 918) (by decide +kernel)) rfl
theorem q919 : (Jvm.Cond.methodLink "TraceMachines" (311 : Nat) ({ cls := "TraceMachines$Pair", name := "tally", desc := "(LTraceMachines$Traces;III)V" } : Jvm.MethodName)) ∈ zW := zW_t (List.mem_of_getElem? (i := 919) (by decide +kernel)) rfl
theorem q920 : (Jvm.Cond.instanceMethod ({ cls := "TraceMachines$Pair", name := "tally", desc := "(LTraceMachines$Traces;III)V" } : Jvm.MethodName)) ∈ zW := zW_t (List.mem_of_getElem? (i := 920) (by decide +kernel)) rfl
theorem q921 : (Jvm.Cond.selects "TraceMachines$Pair" ({ cls := "TraceMachines$Pair", name := "tally", desc := "(LTraceMachines$Traces;III)V" } : Jvm.MethodName) ({ cls := "TraceMachines$Pair", name := "tally", desc := "(LTraceMachines$Traces;III)V" } : Jvm.MethodName)) ∈ zW := zW_t (List.mem_of_getElem? (i := 921) (by decide +kernel)) rfl
theorem q922 : (Jvm.Cond.code ({ cls := "TraceMachines$Pair", name := "tally", desc := "(LTraceMachines$Traces;III)V" } : Jvm.MethodName) prog_6_method_3_code (6 : Nat) (Option.none : Option Jvm.ClassFile.FieldType)) ∈ zW := zW_t (List.mem_of_getElem? (i := 922) (by decide +kernel)) rfl
theorem q923 : (Jvm.Cond.methodLink "TraceMachines$Pair" (27 : Nat) ({ cls := "TraceMachines$Pair", name := "look", desc := "(LTraceMachines$Traces;III)V" } : Jvm.MethodName)) ∈ zW := zW_t (List.mem_of_getElem? (i := 923) (by decide +kernel)) rfl
theorem q925 : (Jvm.Cond.instanceMethod ({ cls := "TraceMachines$Pair", name := "look", desc := "(LTraceMachines$Traces;III)V" } : Jvm.MethodName)) ∈ zW := zW_t (List.mem_of_getElem? (i := 925) (by decide +kernel)) rfl
theorem q926 : (Jvm.Cond.code ({ cls := "TraceMachines$Pair", name := "look", desc := "(LTraceMachines$Traces;III)V" } : Jvm.MethodName) prog_6_method_4_code (8 : Nat) (Option.none : Option Jvm.ClassFile.FieldType)) ∈ zW := zW_t (List.mem_of_getElem? (i := 926) (by decide +kernel)) rfl
theorem q927 : (Jvm.Cond.methodLink "TraceMachines$Pair" (37 : Nat) ({ cls := "TraceMachines$Pair", name := "forgetLooks", desc := "()V" } : Jvm.MethodName)) ∈ zW := zW_t (List.mem_of_getElem? (i := 927) (by decide +kernel)) rfl
theorem q929 : (Jvm.Cond.instanceMethod ({ cls := "TraceMachines$Pair", name := "forgetLooks", desc := "()V" } : Jvm.MethodName)) ∈ zW := zW_t (List.mem_of_getElem? (i := 929) (by decide +kernel)) rfl
theorem q930 : (Jvm.Cond.code ({ cls := "TraceMachines$Pair", name := "forgetLooks", desc := "()V" } : Jvm.MethodName) prog_6_method_5_code (1 : Nat) (Option.none : Option Jvm.ClassFile.FieldType)) ∈ zW := zW_t (List.mem_of_getElem? (i := 930) (by decide +kernel)) rfl
theorem q931 : (Jvm.Cond.methodLink "TraceMachines$Pair" (44 : Nat) ({ cls := "TraceMachines$Traces", name := "letterAt", desc := "(II)I" } : Jvm.MethodName)) ∈ zW := zW_t (List.mem_of_getElem? (i := 931) (by decide +kernel)) rfl
theorem q932 : (Jvm.Cond.methodLink "TraceMachines$Pair" (48 : Nat) ({ cls := "TraceMachines$Pair", name := "meetX", desc := "(I)V" } : Jvm.MethodName)) ∈ zW := zW_t (List.mem_of_getElem? (i := 932) (by decide +kernel)) rfl
theorem q934 : (Jvm.Cond.instanceMethod ({ cls := "TraceMachines$Pair", name := "meetX", desc := "(I)V" } : Jvm.MethodName)) ∈ zW := zW_t (List.mem_of_getElem? (i := 934) (by decide +kernel)) rfl
theorem q935 : (Jvm.Cond.code ({ cls := "TraceMachines$Pair", name := "meetX", desc := "(I)V" } : Jvm.MethodName) prog_6_method_6_code (2 : Nat) (Option.none : Option Jvm.ClassFile.FieldType)) ∈ zW := zW_t (List.mem_of_getElem? (i := 935) (by decide +kernel)) rfl
theorem q936 : (Jvm.Cond.methodLink "TraceMachines$Pair" (56 : Nat) ({ cls := "TraceMachines$Pair", name := "meetY", desc := "(I)V" } : Jvm.MethodName)) ∈ zW := zW_t (List.mem_of_getElem? (i := 936) (by decide +kernel)) rfl
theorem q938 : (Jvm.Cond.instanceMethod ({ cls := "TraceMachines$Pair", name := "meetY", desc := "(I)V" } : Jvm.MethodName)) ∈ zW := zW_t (List.mem_of_getElem? (i := 938) (by decide +kernel)) rfl
theorem q939 : (Jvm.Cond.code ({ cls := "TraceMachines$Pair", name := "meetY", desc := "(I)V" } : Jvm.MethodName) prog_6_method_7_code (2 : Nat) (Option.none : Option Jvm.ClassFile.FieldType)) ∈ zW := zW_t (List.mem_of_getElem? (i := 939) (by decide +kernel)) rfl
theorem q940 : (Jvm.Cond.methodLink "TraceMachines$Pair" (30 : Nat) ({ cls := "TraceMachines$Pair", name := "isAsked", desc := "(I)Z" } : Jvm.MethodName)) ∈ zW := zW_t (List.mem_of_getElem? (i := 940) (by decide +kernel)) rfl
theorem q942 : (Jvm.Cond.instanceMethod ({ cls := "TraceMachines$Pair", name := "isAsked", desc := "(I)Z" } : Jvm.MethodName)) ∈ zW := zW_t (List.mem_of_getElem? (i := 942) (by decide +kernel)) rfl
theorem q943 : (Jvm.Cond.code ({ cls := "TraceMachines$Pair", name := "isAsked", desc := "(I)Z" } : Jvm.MethodName) prog_6_method_8_code (2 : Nat) (Option.some Jvm.ClassFile.FieldType.boolean)) ∈ zW := zW_t (List.mem_of_getElem? (i := 943) (by decide +kernel)) rfl
theorem q944 : (Jvm.Cond.methodLink "TraceMachines$Pair" (34 : Nat) ({ cls := "TraceMachines$Pair", name := "isSo", desc := "(I)Z" } : Jvm.MethodName)) ∈ zW := zW_t (List.mem_of_getElem? (i := 944) (by decide +kernel)) rfl
theorem q946 : (Jvm.Cond.instanceMethod ({ cls := "TraceMachines$Pair", name := "isSo", desc := "(I)Z" } : Jvm.MethodName)) ∈ zW := zW_t (List.mem_of_getElem? (i := 946) (by decide +kernel)) rfl
theorem q947 : (Jvm.Cond.code ({ cls := "TraceMachines$Pair", name := "isSo", desc := "(I)Z" } : Jvm.MethodName) prog_6_method_9_code (2 : Nat) (Option.some Jvm.ClassFile.FieldType.boolean)) ∈ zW := zW_t (List.mem_of_getElem? (i := 947) (by decide +kernel)) rfl
theorem q948 : (Jvm.Cond.methodLink "TraceMachinesLaw" (106 : Nat) ({ cls := "TraceMachines", name := "rules", desc := "(III)I" } : Jvm.MethodName)) ∈ zW := zW_t (List.mem_of_getElem? (i := 948) (by decide +kernel)) rfl
theorem q949 : (Jvm.Cond.instanceMethod ({ cls := "TraceMachines", name := "rules", desc := "(III)I" } : Jvm.MethodName)) ∈ zW := zW_t (List.mem_of_getElem? (i := 949) (by decide +kernel)) rfl
theorem q950 : (Jvm.Cond.selects "TraceMachines" ({ cls := "TraceMachines", name := "rules", desc := "(III)I" } : Jvm.MethodName) ({ cls := "TraceMachines", name := "rules", desc := "(III)I" } : Jvm.MethodName)) ∈ zW := zW_t (List.mem_of_getElem? (i := 950) (by decide +kernel)) rfl
theorem q951 : (Jvm.Cond.code ({ cls := "TraceMachines", name := "rules", desc := "(III)I" } : Jvm.MethodName) prog_1_method_21_code (8 : Nat) (Option.some Jvm.ClassFile.FieldType.int)) ∈ zW := zW_t (List.mem_of_getElem? (i := 951) (by decide +kernel)) rfl
theorem q952 : (Jvm.Cond.methodLink "TraceMachines" (321 : Nat) ({ cls := "TraceMachines$Pair", name := "stands", desc := "(LTraceMachines$Traces;IIII)Z" } : Jvm.MethodName)) ∈ zW := zW_t (List.mem_of_getElem? (i := 952) (by decide +kernel)) rfl
theorem q953 : (Jvm.Cond.instanceMethod ({ cls := "TraceMachines$Pair", name := "stands", desc := "(LTraceMachines$Traces;IIII)Z" } : Jvm.MethodName)) ∈ zW := zW_t (List.mem_of_getElem? (i := 953) (by decide +kernel)) rfl
theorem q954 : (Jvm.Cond.selects "TraceMachines$Pair" ({ cls := "TraceMachines$Pair", name := "stands", desc := "(LTraceMachines$Traces;IIII)Z" } : Jvm.MethodName) ({ cls := "TraceMachines$Pair", name := "stands", desc := "(LTraceMachines$Traces;IIII)Z" } : Jvm.MethodName)) ∈ zW := zW_t (List.mem_of_getElem? (i := 954) (by decide +kernel)) rfl
theorem q955 : (Jvm.Cond.code ({ cls := "TraceMachines$Pair", name := "stands", desc := "(LTraceMachines$Traces;IIII)Z" } : Jvm.MethodName) prog_6_method_2_code (6 : Nat) (Option.some Jvm.ClassFile.FieldType.boolean)) ∈ zW := zW_t (List.mem_of_getElem? (i := 955) (by decide +kernel)) rfl
theorem q956 : (Jvm.Cond.methodLink "TraceMachines$Pair" (9 : Nat) ({ cls := "TraceMachines$Pair", name := "tally", desc := "(LTraceMachines$Traces;III)V" } : Jvm.MethodName)) ∈ zW := zW_t (List.mem_of_getElem? (i := 956) (by decide +kernel)) rfl
theorem q957 : (Jvm.Cond.methodLink "TraceMachinesLaw" (110 : Nat) ({ cls := "TraceMachines", name := "odd", desc := "(II)I" } : Jvm.MethodName)) ∈ zW := zW_t (List.mem_of_getElem? (i := 957) (by decide +kernel)) rfl
theorem q958 : (Jvm.Cond.instanceMethod ({ cls := "TraceMachines", name := "odd", desc := "(II)I" } : Jvm.MethodName)) ∈ zW := zW_t (List.mem_of_getElem? (i := 958) (by decide +kernel)) rfl
theorem q959 : (Jvm.Cond.selects "TraceMachines" ({ cls := "TraceMachines", name := "odd", desc := "(II)I" } : Jvm.MethodName) ({ cls := "TraceMachines", name := "odd", desc := "(II)I" } : Jvm.MethodName)) ∈ zW := zW_t (List.mem_of_getElem? (i := 959) (by decide +kernel)) rfl
theorem q960 : (Jvm.Cond.code ({ cls := "TraceMachines", name := "odd", desc := "(II)I" } : Jvm.MethodName) prog_1_method_22_code (3 : Nat) (Option.some Jvm.ClassFile.FieldType.int)) ∈ zW := zW_t (List.mem_of_getElem? (i := 960) (by decide +kernel)) rfl
theorem q961 : (Jvm.Cond.methodLink "TraceMachines" (325 : Nat) ({ cls := "TraceMachines$Odds", name := "weigh", desc := "(LTraceMachines$Traces;LTraceMachines$Tree;LTraceMachines$Machine;)V" } : Jvm.MethodName)) ∈ zW := zW_t (List.mem_of_getElem? (i := 961) (by decide +kernel)) rfl
theorem q962 : (Jvm.Cond.instanceMethod ({ cls := "TraceMachines$Odds", name := "weigh", desc := "(LTraceMachines$Traces;LTraceMachines$Tree;LTraceMachines$Machine;)V" } : Jvm.MethodName)) ∈ zW := zW_t (List.mem_of_getElem? (i := 962) (by decide +kernel)) rfl
theorem q963 : (Jvm.Cond.selects "TraceMachines$Odds" ({ cls := "TraceMachines$Odds", name := "weigh", desc := "(LTraceMachines$Traces;LTraceMachines$Tree;LTraceMachines$Machine;)V" } : Jvm.MethodName) ({ cls := "TraceMachines$Odds", name := "weigh", desc := "(LTraceMachines$Traces;LTraceMachines$Tree;LTraceMachines$Machine;)V" } : Jvm.MethodName)) ∈ zW := zW_t (List.mem_of_getElem? (i := 963) (by decide +kernel)) rfl
theorem q964 : (Jvm.Cond.code ({ cls := "TraceMachines$Odds", name := "weigh", desc := "(LTraceMachines$Traces;LTraceMachines$Tree;LTraceMachines$Machine;)V" } : Jvm.MethodName) prog_5_method_2_code (6 : Nat) (Option.none : Option Jvm.ClassFile.FieldType)) ∈ zW := zW_t (List.mem_of_getElem? (i := 964) (by decide +kernel)) rfl
theorem q965 : (Jvm.Cond.methodLink "TraceMachines$Odds" (36 : Nat) ({ cls := "TraceMachines$Tree", name := "prefixAt", desc := "(II)I" } : Jvm.MethodName)) ∈ zW := zW_t (List.mem_of_getElem? (i := 965) (by decide +kernel)) rfl
theorem q966 : (Jvm.Cond.methodLink "TraceMachines$Odds" (42 : Nat) ({ cls := "TraceMachines$Odds", name := "meet", desc := "(II)V" } : Jvm.MethodName)) ∈ zW := zW_t (List.mem_of_getElem? (i := 966) (by decide +kernel)) rfl
theorem q968 : (Jvm.Cond.instanceMethod ({ cls := "TraceMachines$Odds", name := "meet", desc := "(II)V" } : Jvm.MethodName)) ∈ zW := zW_t (List.mem_of_getElem? (i := 968) (by decide +kernel)) rfl
theorem q969 : (Jvm.Cond.code ({ cls := "TraceMachines$Odds", name := "meet", desc := "(II)V" } : Jvm.MethodName) prog_5_method_3_code (3 : Nat) (Option.none : Option Jvm.ClassFile.FieldType)) ∈ zW := zW_t (List.mem_of_getElem? (i := 969) (by decide +kernel)) rfl
theorem q970 : (Jvm.Cond.methodLink "TraceMachines" (334 : Nat) ({ cls := "TraceMachines$Odds", name := "placeOf", desc := "(I)I" } : Jvm.MethodName)) ∈ zW := zW_t (List.mem_of_getElem? (i := 970) (by decide +kernel)) rfl
theorem q971 : (Jvm.Cond.instanceMethod ({ cls := "TraceMachines$Odds", name := "placeOf", desc := "(I)I" } : Jvm.MethodName)) ∈ zW := zW_t (List.mem_of_getElem? (i := 971) (by decide +kernel)) rfl
theorem q972 : (Jvm.Cond.selects "TraceMachines$Odds" ({ cls := "TraceMachines$Odds", name := "placeOf", desc := "(I)I" } : Jvm.MethodName) ({ cls := "TraceMachines$Odds", name := "placeOf", desc := "(I)I" } : Jvm.MethodName)) ∈ zW := zW_t (List.mem_of_getElem? (i := 972) (by decide +kernel)) rfl
theorem q973 : (Jvm.Cond.code ({ cls := "TraceMachines$Odds", name := "placeOf", desc := "(I)I" } : Jvm.MethodName) prog_5_method_4_code (4 : Nat) (Option.some Jvm.ClassFile.FieldType.int)) ∈ zW := zW_t (List.mem_of_getElem? (i := 973) (by decide +kernel)) rfl
theorem q974 : (Jvm.Cond.methodLink "TraceMachines$Odds" (46 : Nat) ({ cls := "TraceMachines$Odds", name := "isOdder", desc := "(II)Z" } : Jvm.MethodName)) ∈ zW := zW_t (List.mem_of_getElem? (i := 974) (by decide +kernel)) rfl
theorem q976 : (Jvm.Cond.instanceMethod ({ cls := "TraceMachines$Odds", name := "isOdder", desc := "(II)Z" } : Jvm.MethodName)) ∈ zW := zW_t (List.mem_of_getElem? (i := 976) (by decide +kernel)) rfl
theorem q977 : (Jvm.Cond.code ({ cls := "TraceMachines$Odds", name := "isOdder", desc := "(II)Z" } : Jvm.MethodName) prog_5_method_5_code (3 : Nat) (Option.some Jvm.ClassFile.FieldType.boolean)) ∈ zW := zW_t (List.mem_of_getElem? (i := 977) (by decide +kernel)) rfl
theorem q978 : (Jvm.Cond.methodLink "TraceMachinesLaw" (114 : Nat) ({ cls := "TraceMachines", name := "oddest", desc := "(I)I" } : Jvm.MethodName)) ∈ zW := zW_t (List.mem_of_getElem? (i := 978) (by decide +kernel)) rfl
theorem q979 : (Jvm.Cond.instanceMethod ({ cls := "TraceMachines", name := "oddest", desc := "(I)I" } : Jvm.MethodName)) ∈ zW := zW_t (List.mem_of_getElem? (i := 979) (by decide +kernel)) rfl
theorem q980 : (Jvm.Cond.selects "TraceMachines" ({ cls := "TraceMachines", name := "oddest", desc := "(I)I" } : Jvm.MethodName) ({ cls := "TraceMachines", name := "oddest", desc := "(I)I" } : Jvm.MethodName)) ∈ zW := zW_t (List.mem_of_getElem? (i := 980) (by decide +kernel)) rfl
theorem q981 : (Jvm.Cond.code ({ cls := "TraceMachines", name := "oddest", desc := "(I)I" } : Jvm.MethodName) prog_1_method_23_code (3 : Nat) (Option.some Jvm.ClassFile.FieldType.int)) ∈ zW := zW_t (List.mem_of_getElem? (i := 981) (by decide +kernel)) rfl
theorem q982 : (Jvm.Cond.methodLink "TraceMachinesLaw" (118 : Nat) ({ cls := "TraceMachines", name := "held", desc := "(IIZ)I" } : Jvm.MethodName)) ∈ zW := zW_t (List.mem_of_getElem? (i := 982) (by decide +kernel)) rfl
theorem q983 : (Jvm.Cond.instanceMethod ({ cls := "TraceMachines", name := "held", desc := "(IIZ)I" } : Jvm.MethodName)) ∈ zW := zW_t (List.mem_of_getElem? (i := 983) (by decide +kernel)) rfl
theorem q984 : (Jvm.Cond.selects "TraceMachines" ({ cls := "TraceMachines", name := "held", desc := "(IIZ)I" } : Jvm.MethodName) ({ cls := "TraceMachines", name := "held", desc := "(IIZ)I" } : Jvm.MethodName)) ∈ zW := zW_t (List.mem_of_getElem? (i := 984) (by decide +kernel)) rfl
theorem q985 : (Jvm.Cond.code ({ cls := "TraceMachines", name := "held", desc := "(IIZ)I" } : Jvm.MethodName) prog_1_method_24_code (4 : Nat) (Option.some Jvm.ClassFile.FieldType.int)) ∈ zW := zW_t (List.mem_of_getElem? (i := 985) (by decide +kernel)) rfl
theorem q986 : (Jvm.Cond.methodLink "TraceMachines" (337 : Nat) ({ cls := "TraceMachines", name := "foldOthers", desc := "(II)V" } : Jvm.MethodName)) ∈ zW := zW_t (List.mem_of_getElem? (i := 986) (by decide +kernel)) rfl
theorem q988 : (Jvm.Cond.instanceMethod ({ cls := "TraceMachines", name := "foldOthers", desc := "(II)V" } : Jvm.MethodName)) ∈ zW := zW_t (List.mem_of_getElem? (i := 988) (by decide +kernel)) rfl
theorem q989 : (Jvm.Cond.code ({ cls := "TraceMachines", name := "foldOthers", desc := "(II)V" } : Jvm.MethodName) prog_1_method_38_code (3 : Nat) (Option.none : Option Jvm.ClassFile.FieldType)) ∈ zW := zW_t (List.mem_of_getElem? (i := 989) (by decide +kernel)) rfl
theorem q990 : (Jvm.Cond.methodLink "TraceMachines" (340 : Nat) ({ cls := "TraceMachines", name := "takenByOthers", desc := "(IZ)Z" } : Jvm.MethodName)) ∈ zW := zW_t (List.mem_of_getElem? (i := 990) (by decide +kernel)) rfl
theorem q992 : (Jvm.Cond.instanceMethod ({ cls := "TraceMachines", name := "takenByOthers", desc := "(IZ)Z" } : Jvm.MethodName)) ∈ zW := zW_t (List.mem_of_getElem? (i := 992) (by decide +kernel)) rfl
theorem q993 : (Jvm.Cond.code ({ cls := "TraceMachines", name := "takenByOthers", desc := "(IZ)Z" } : Jvm.MethodName) prog_1_method_39_code (3 : Nat) (Option.some Jvm.ClassFile.FieldType.boolean)) ∈ zW := zW_t (List.mem_of_getElem? (i := 993) (by decide +kernel)) rfl
theorem q994 : (Jvm.Cond.methodLink "TraceMachinesLaw" (123 : Nat) ({ cls := "TraceMachines", name := "fit", desc := "(II)I" } : Jvm.MethodName)) ∈ zW := zW_t (List.mem_of_getElem? (i := 994) (by decide +kernel)) rfl
theorem q995 : (Jvm.Cond.instanceMethod ({ cls := "TraceMachines", name := "fit", desc := "(II)I" } : Jvm.MethodName)) ∈ zW := zW_t (List.mem_of_getElem? (i := 995) (by decide +kernel)) rfl
theorem q996 : (Jvm.Cond.selects "TraceMachines" ({ cls := "TraceMachines", name := "fit", desc := "(II)I" } : Jvm.MethodName) ({ cls := "TraceMachines", name := "fit", desc := "(II)I" } : Jvm.MethodName)) ∈ zW := zW_t (List.mem_of_getElem? (i := 996) (by decide +kernel)) rfl
theorem q997 : (Jvm.Cond.code ({ cls := "TraceMachines", name := "fit", desc := "(II)I" } : Jvm.MethodName) prog_1_method_25_code (3 : Nat) (Option.some Jvm.ClassFile.FieldType.int)) ∈ zW := zW_t (List.mem_of_getElem? (i := 997) (by decide +kernel)) rfl
theorem q998 : (Jvm.Cond.methodLink "TraceMachines" (344 : Nat) ({ cls := "TraceMachines", name := "fitting", desc := "(IZ)I" } : Jvm.MethodName)) ∈ zW := zW_t (List.mem_of_getElem? (i := 998) (by decide +kernel)) rfl
theorem q1000 : (Jvm.Cond.instanceMethod ({ cls := "TraceMachines", name := "fitting", desc := "(IZ)I" } : Jvm.MethodName)) ∈ zW := zW_t (List.mem_of_getElem? (i := 1000) (by decide +kernel)) rfl
theorem q1001 : (Jvm.Cond.code ({ cls := "TraceMachines", name := "fitting", desc := "(IZ)I" } : Jvm.MethodName) prog_1_method_40_code (5 : Nat) (Option.some Jvm.ClassFile.FieldType.int)) ∈ zW := zW_t (List.mem_of_getElem? (i := 1001) (by decide +kernel)) rfl
theorem q1002 : (Jvm.Cond.methodLink "TraceMachinesLaw" (127 : Nat) ({ cls := "TraceMachines", name := "best", desc := "(I)I" } : Jvm.MethodName)) ∈ zW := zW_t (List.mem_of_getElem? (i := 1002) (by decide +kernel)) rfl
theorem q1003 : (Jvm.Cond.instanceMethod ({ cls := "TraceMachines", name := "best", desc := "(I)I" } : Jvm.MethodName)) ∈ zW := zW_t (List.mem_of_getElem? (i := 1003) (by decide +kernel)) rfl
theorem q1004 : (Jvm.Cond.selects "TraceMachines" ({ cls := "TraceMachines", name := "best", desc := "(I)I" } : Jvm.MethodName) ({ cls := "TraceMachines", name := "best", desc := "(I)I" } : Jvm.MethodName)) ∈ zW := zW_t (List.mem_of_getElem? (i := 1004) (by decide +kernel)) rfl
theorem q1005 : (Jvm.Cond.code ({ cls := "TraceMachines", name := "best", desc := "(I)I" } : Jvm.MethodName) prog_1_method_26_code (5 : Nat) (Option.some Jvm.ClassFile.FieldType.int)) ∈ zW := zW_t (List.mem_of_getElem? (i := 1005) (by decide +kernel)) rfl
theorem q1006 : (Jvm.Cond.methodLink "TraceMachinesLaw" (131 : Nat) ({ cls := "TraceMachines", name := "keep", desc := "(I)Z" } : Jvm.MethodName)) ∈ zW := zW_t (List.mem_of_getElem? (i := 1006) (by decide +kernel)) rfl
theorem q1007 : (Jvm.Cond.instanceMethod ({ cls := "TraceMachines", name := "keep", desc := "(I)Z" } : Jvm.MethodName)) ∈ zW := zW_t (List.mem_of_getElem? (i := 1007) (by decide +kernel)) rfl
theorem q1008 : (Jvm.Cond.selects "TraceMachines" ({ cls := "TraceMachines", name := "keep", desc := "(I)Z" } : Jvm.MethodName) ({ cls := "TraceMachines", name := "keep", desc := "(I)Z" } : Jvm.MethodName)) ∈ zW := zW_t (List.mem_of_getElem? (i := 1008) (by decide +kernel)) rfl
theorem q1009 : (Jvm.Cond.code ({ cls := "TraceMachines", name := "keep", desc := "(I)Z" } : Jvm.MethodName) prog_1_method_27_code (2 : Nat) (Option.some Jvm.ClassFile.FieldType.boolean)) ∈ zW := zW_t (List.mem_of_getElem? (i := 1009) (by decide +kernel)) rfl
theorem q1010 : (Jvm.Cond.methodLink "TraceMachinesLaw" (135 : Nat) ({ cls := "TraceMachines", name := "again", desc := "(I)Z" } : Jvm.MethodName)) ∈ zW := zW_t (List.mem_of_getElem? (i := 1010) (by decide +kernel)) rfl
theorem q1011 : (Jvm.Cond.instanceMethod ({ cls := "TraceMachines", name := "again", desc := "(I)Z" } : Jvm.MethodName)) ∈ zW := zW_t (List.mem_of_getElem? (i := 1011) (by decide +kernel)) rfl
theorem q1012 : (Jvm.Cond.selects "TraceMachines" ({ cls := "TraceMachines", name := "again", desc := "(I)Z" } : Jvm.MethodName) ({ cls := "TraceMachines", name := "again", desc := "(I)Z" } : Jvm.MethodName)) ∈ zW := zW_t (List.mem_of_getElem? (i := 1012) (by decide +kernel)) rfl
theorem q1013 : (Jvm.Cond.code ({ cls := "TraceMachines", name := "again", desc := "(I)Z" } : Jvm.MethodName) prog_1_method_28_code (2 : Nat) (Option.some Jvm.ClassFile.FieldType.boolean)) ∈ zW := zW_t (List.mem_of_getElem? (i := 1013) (by decide +kernel)) rfl
theorem q1014 : (Jvm.Cond.methodLink "TraceMachinesLaw" (139 : Nat) ({ cls := "TraceMachines", name := "count", desc := "(I)I" } : Jvm.MethodName)) ∈ zW := zW_t (List.mem_of_getElem? (i := 1014) (by decide +kernel)) rfl
theorem q1015 : (Jvm.Cond.instanceMethod ({ cls := "TraceMachines", name := "count", desc := "(I)I" } : Jvm.MethodName)) ∈ zW := zW_t (List.mem_of_getElem? (i := 1015) (by decide +kernel)) rfl
theorem q1016 : (Jvm.Cond.selects "TraceMachines" ({ cls := "TraceMachines", name := "count", desc := "(I)I" } : Jvm.MethodName) ({ cls := "TraceMachines", name := "count", desc := "(I)I" } : Jvm.MethodName)) ∈ zW := zW_t (List.mem_of_getElem? (i := 1016) (by decide +kernel)) rfl
theorem q1017 : (Jvm.Cond.code ({ cls := "TraceMachines", name := "count", desc := "(I)I" } : Jvm.MethodName) prog_1_method_29_code (2 : Nat) (Option.some Jvm.ClassFile.FieldType.int)) ∈ zW := zW_t (List.mem_of_getElem? (i := 1017) (by decide +kernel)) rfl
theorem q1018 : (Jvm.Cond.methodLink "TraceMachines" (348 : Nat) ({ cls := "TraceMachines$Traces", name := "allCalls", desc := "()I" } : Jvm.MethodName)) ∈ zW := zW_t (List.mem_of_getElem? (i := 1018) (by decide +kernel)) rfl
theorem q1019 : (Jvm.Cond.instanceMethod ({ cls := "TraceMachines$Traces", name := "allCalls", desc := "()I" } : Jvm.MethodName)) ∈ zW := zW_t (List.mem_of_getElem? (i := 1019) (by decide +kernel)) rfl
theorem q1020 : (Jvm.Cond.selects "TraceMachines$Traces" ({ cls := "TraceMachines$Traces", name := "allCalls", desc := "()I" } : Jvm.MethodName) ({ cls := "TraceMachines$Traces", name := "allCalls", desc := "()I" } : Jvm.MethodName)) ∈ zW := zW_t (List.mem_of_getElem? (i := 1020) (by decide +kernel)) rfl
theorem q1021 : (Jvm.Cond.code ({ cls := "TraceMachines$Traces", name := "allCalls", desc := "()I" } : Jvm.MethodName) prog_10_method_6_code (3 : Nat) (Option.some Jvm.ClassFile.FieldType.int)) ∈ zW := zW_t (List.mem_of_getElem? (i := 1021) (by decide +kernel)) rfl
theorem q1022 : (Jvm.Cond.methodLink "TraceMachines" (354 : Nat) ({ cls := "TraceMachines$Machine", name := "finalStates", desc := "()I" } : Jvm.MethodName)) ∈ zW := zW_t (List.mem_of_getElem? (i := 1022) (by decide +kernel)) rfl
theorem q1023 : (Jvm.Cond.instanceMethod ({ cls := "TraceMachines$Machine", name := "finalStates", desc := "()I" } : Jvm.MethodName)) ∈ zW := zW_t (List.mem_of_getElem? (i := 1023) (by decide +kernel)) rfl
theorem q1024 : (Jvm.Cond.selects "TraceMachines$Machine" ({ cls := "TraceMachines$Machine", name := "finalStates", desc := "()I" } : Jvm.MethodName) ({ cls := "TraceMachines$Machine", name := "finalStates", desc := "()I" } : Jvm.MethodName)) ∈ zW := zW_t (List.mem_of_getElem? (i := 1024) (by decide +kernel)) rfl
theorem q1025 : (Jvm.Cond.code ({ cls := "TraceMachines$Machine", name := "finalStates", desc := "()I" } : Jvm.MethodName) prog_4_method_13_code (3 : Nat) (Option.some Jvm.ClassFile.FieldType.int)) ∈ zW := zW_t (List.mem_of_getElem? (i := 1025) (by decide +kernel)) rfl
theorem q1026 : (Jvm.Cond.methodLink "TraceMachinesLaw" (50 : Nat) ({ cls := "TraceMachinesLaw", name := "call", desc := "(LTraceMachines;III[J)I" } : Jvm.MethodName)) ∈ zW := zW_t (List.mem_of_getElem? (i := 1026) (by decide +kernel)) rfl
theorem q1027 : (Jvm.Cond.static ({ cls := "TraceMachinesLaw", name := "call", desc := "(LTraceMachines;III[J)I" } : Jvm.MethodName)) ∈ zW := zW_t (List.mem_of_getElem? (i := 1027) (by decide +kernel)) rfl
theorem q1029 : (Jvm.Cond.classLink "TraceMachinesLaw" (13 : Nat) "java/util/NoSuchElementException") ∈ zW := zW_t (List.mem_of_getElem? (i := 1029) (by decide +kernel)) rfl
theorem q1030 : (Jvm.Cond.methodLink "TraceMachinesLaw" (7 : Nat) ({ cls := "TraceMachines", name := "call", desc := "(III)I" } : Jvm.MethodName)) ∈ zW := zW_t (List.mem_of_getElem? (i := 1030) (by decide +kernel)) rfl
theorem q1031 : (Jvm.Cond.instanceMethod ({ cls := "TraceMachines", name := "call", desc := "(III)I" } : Jvm.MethodName)) ∈ zW := zW_t (List.mem_of_getElem? (i := 1031) (by decide +kernel)) rfl
theorem q1032 : (Jvm.Cond.selects "TraceMachines" ({ cls := "TraceMachines", name := "call", desc := "(III)I" } : Jvm.MethodName) ({ cls := "TraceMachines", name := "call", desc := "(III)I" } : Jvm.MethodName)) ∈ zW := zW_t (List.mem_of_getElem? (i := 1032) (by decide +kernel)) rfl
theorem q1033 : (Jvm.Cond.code ({ cls := "TraceMachines", name := "call", desc := "(III)I" } : Jvm.MethodName) prog_1_method_9_code (5 : Nat) (Option.some Jvm.ClassFile.FieldType.int)) ∈ zW := zW_t (List.mem_of_getElem? (i := 1033) (by decide +kernel)) rfl
theorem q1034 : (Jvm.Cond.classLink "TraceMachines" (168 : Nat) "java/util/NoSuchElementException") ∈ zW := zW_t (List.mem_of_getElem? (i := 1034) (by decide +kernel)) rfl
theorem q1035 : (Jvm.Cond.instantiable "java/util/NoSuchElementException" (6 : Nat)) ∈ zW := zW_t (List.mem_of_getElem? (i := 1035) (by decide +kernel)) rfl
theorem q1043 : (Jvm.Cond.selects "java/util/NoSuchElementException" ({ cls := "java/lang/Throwable", name := "fillInStackTrace", desc := "(I)Ljava/lang/Throwable;" } : Jvm.MethodName) ({ cls := "java/lang/Throwable", name := "fillInStackTrace", desc := "(I)Ljava/lang/Throwable;" } : Jvm.MethodName)) ∈ zW := zW_t (List.mem_of_getElem? (i := 1043) (by decide +kernel)) rfl
theorem q1044 : (Jvm.Cond.selects "java/util/NoSuchElementException" ({ cls := "java/lang/Throwable", name := "fillInStackTrace", desc := "()Ljava/lang/Throwable;" } : Jvm.MethodName) ({ cls := "java/lang/Throwable", name := "fillInStackTrace", desc := "()Ljava/lang/Throwable;" } : Jvm.MethodName)) ∈ zW := zW_t (List.mem_of_getElem? (i := 1044) (by decide +kernel)) rfl
theorem q1045 : (Jvm.Cond.lays "java/util/NoSuchElementException" "java/lang/Throwable" "cause" "Ljava/lang/Throwable;") ∈ zW := zW_t (List.mem_of_getElem? (i := 1045) (by decide +kernel)) rfl
theorem q1046 : (Jvm.Cond.lays "java/lang/Throwable" "java/lang/Throwable" "cause" "Ljava/lang/Throwable;") ∈ zW := zW_t (List.mem_of_getElem? (i := 1046) (by decide +kernel)) rfl
theorem q1047 : (Jvm.Cond.lays "java/util/NoSuchElementException" "java/lang/Throwable" "stackTrace" "[Ljava/lang/StackTraceElement;") ∈ zW := zW_t (List.mem_of_getElem? (i := 1047) (by decide +kernel)) rfl
theorem q1048 : (Jvm.Cond.lays "java/lang/Throwable" "java/lang/Throwable" "stackTrace" "[Ljava/lang/StackTraceElement;") ∈ zW := zW_t (List.mem_of_getElem? (i := 1048) (by decide +kernel)) rfl
theorem q1049 : (Jvm.Cond.lays "java/util/NoSuchElementException" "java/lang/Throwable" "suppressedExceptions" "Ljava/util/List;") ∈ zW := zW_t (List.mem_of_getElem? (i := 1049) (by decide +kernel)) rfl
theorem q1050 : (Jvm.Cond.lays "java/lang/Throwable" "java/lang/Throwable" "suppressedExceptions" "Ljava/util/List;") ∈ zW := zW_t (List.mem_of_getElem? (i := 1050) (by decide +kernel)) rfl
theorem q1051 : (Jvm.Cond.lays "java/util/NoSuchElementException" "java/lang/Throwable" "detailMessage" "Ljava/lang/String;") ∈ zW := zW_t (List.mem_of_getElem? (i := 1051) (by decide +kernel)) rfl
theorem q1052 : (Jvm.Cond.lays "java/lang/Throwable" "java/lang/Throwable" "detailMessage" "Ljava/lang/String;") ∈ zW := zW_t (List.mem_of_getElem? (i := 1052) (by decide +kernel)) rfl
theorem q1053 : (Jvm.Cond.lays "java/util/NoSuchElementException" "java/lang/Throwable" "backtrace" "Ljava/lang/Object;") ∈ zW := zW_t (List.mem_of_getElem? (i := 1053) (by decide +kernel)) rfl
theorem q1054 : (Jvm.Cond.lays "java/lang/Throwable" "java/lang/Throwable" "backtrace" "Ljava/lang/Object;") ∈ zW := zW_t (List.mem_of_getElem? (i := 1054) (by decide +kernel)) rfl
theorem q1055 : (Jvm.Cond.fieldLink "java/lang/Throwable" (198 : Nat) "java/lang/Throwable" "backtrace" "Ljava/lang/Object;") ∈ zW := zW_t (List.mem_of_getElem? (i := 1055) (by decide +kernel)) rfl
theorem q1057 : (Jvm.Cond.instanceMethod ({ cls := "java/lang/Throwable", name := "<init>", desc := "()V" } : Jvm.MethodName)) ∈ zW := zW_t (List.mem_of_getElem? (i := 1057) (by decide +kernel)) rfl
theorem q1058 : (Jvm.Cond.code ({ cls := "java/lang/Throwable", name := "<init>", desc := "()V" } : Jvm.MethodName) prog_23_method_1_code (1 : Nat) (Option.none : Option Jvm.ClassFile.FieldType)) ∈ zW := zW_t (List.mem_of_getElem? (i := 1058) (by decide +kernel)) rfl
theorem q1059 : (Jvm.Cond.methodLink "java/lang/Throwable" (1 : Nat) ({ cls := "java/lang/Object", name := "<init>", desc := "()V" } : Jvm.MethodName)) ∈ zW := zW_t (List.mem_of_getElem? (i := 1059) (by decide +kernel)) rfl
theorem q1060 : (Jvm.Cond.fieldLink "java/lang/Throwable" (13 : Nat) "java/lang/Throwable" "UNASSIGNED_STACK" "[Ljava/lang/StackTraceElement;") ∈ zW := zW_t (List.mem_of_getElem? (i := 1060) (by decide +kernel)) rfl
theorem q1062 : (Jvm.Cond.fieldLink "java/lang/Throwable" (20 : Nat) "java/lang/Throwable" "SUPPRESSED_SENTINEL" "Ljava/util/List;") ∈ zW := zW_t (List.mem_of_getElem? (i := 1062) (by decide +kernel)) rfl
theorem q1064 : (Jvm.Cond.methodLink "java/lang/Throwable" (27 : Nat) ({ cls := "java/lang/Throwable", name := "fillInStackTrace", desc := "()Ljava/lang/Throwable;" } : Jvm.MethodName)) ∈ zW := zW_t (List.mem_of_getElem? (i := 1064) (by decide +kernel)) rfl
theorem q1065 : (Jvm.Cond.instanceMethod ({ cls := "java/lang/Throwable", name := "fillInStackTrace", desc := "()Ljava/lang/Throwable;" } : Jvm.MethodName)) ∈ zW := zW_t (List.mem_of_getElem? (i := 1065) (by decide +kernel)) rfl
theorem q1068 : (Jvm.Cond.methodLink "java/lang/Throwable" (202 : Nat) ({ cls := "java/lang/Throwable", name := "fillInStackTrace", desc := "(I)Ljava/lang/Throwable;" } : Jvm.MethodName)) ∈ zW := zW_t (List.mem_of_getElem? (i := 1068) (by decide +kernel)) rfl
theorem q1070 : (Jvm.Cond.instanceMethod ({ cls := "java/lang/Throwable", name := "fillInStackTrace", desc := "(I)Ljava/lang/Throwable;" } : Jvm.MethodName)) ∈ zW := zW_t (List.mem_of_getElem? (i := 1070) (by decide +kernel)) rfl
theorem q1071 : (Jvm.Cond.instantiable "java/lang/Throwable" (6 : Nat)) ∈ zW := zW_t (List.mem_of_getElem? (i := 1071) (by decide +kernel)) rfl
theorem q1072 : (Jvm.Cond.native ({ cls := "java/lang/Throwable", name := "fillInStackTrace", desc := "(I)Ljava/lang/Throwable;" } : Jvm.MethodName)) ∈ zW := zW_t (List.mem_of_getElem? (i := 1072) (by decide +kernel)) rfl
theorem q1074 : (Jvm.Cond.methodLink "TraceMachines" (172 : Nat) ({ cls := "java/util/NoSuchElementException", name := "<init>", desc := "(Ljava/lang/String;)V" } : Jvm.MethodName)) ∈ zW := zW_t (List.mem_of_getElem? (i := 1074) (by decide +kernel)) rfl
theorem q1075 : (Jvm.Cond.instanceMethod ({ cls := "java/util/NoSuchElementException", name := "<init>", desc := "(Ljava/lang/String;)V" } : Jvm.MethodName)) ∈ zW := zW_t (List.mem_of_getElem? (i := 1075) (by decide +kernel)) rfl
theorem q1076 : (Jvm.Cond.code ({ cls := "java/util/NoSuchElementException", name := "<init>", desc := "(Ljava/lang/String;)V" } : Jvm.MethodName) prog_25_method_4_code (2 : Nat) (Option.none : Option Jvm.ClassFile.FieldType)) ∈ zW := zW_t (List.mem_of_getElem? (i := 1076) (by decide +kernel)) rfl
theorem q1077 : (Jvm.Cond.methodLink "java/util/NoSuchElementException" (13 : Nat) ({ cls := "java/lang/RuntimeException", name := "<init>", desc := "(Ljava/lang/String;)V" } : Jvm.MethodName)) ∈ zW := zW_t (List.mem_of_getElem? (i := 1077) (by decide +kernel)) rfl
theorem q1078 : (Jvm.Cond.instanceMethod ({ cls := "java/lang/RuntimeException", name := "<init>", desc := "(Ljava/lang/String;)V" } : Jvm.MethodName)) ∈ zW := zW_t (List.mem_of_getElem? (i := 1078) (by decide +kernel)) rfl
theorem q1079 : (Jvm.Cond.code ({ cls := "java/lang/RuntimeException", name := "<init>", desc := "(Ljava/lang/String;)V" } : Jvm.MethodName) prog_20_method_2_code (2 : Nat) (Option.none : Option Jvm.ClassFile.FieldType)) ∈ zW := zW_t (List.mem_of_getElem? (i := 1079) (by decide +kernel)) rfl
theorem q1080 : (Jvm.Cond.methodLink "java/lang/RuntimeException" (7 : Nat) ({ cls := "java/lang/Exception", name := "<init>", desc := "(Ljava/lang/String;)V" } : Jvm.MethodName)) ∈ zW := zW_t (List.mem_of_getElem? (i := 1080) (by decide +kernel)) rfl
theorem q1081 : (Jvm.Cond.instanceMethod ({ cls := "java/lang/Exception", name := "<init>", desc := "(Ljava/lang/String;)V" } : Jvm.MethodName)) ∈ zW := zW_t (List.mem_of_getElem? (i := 1081) (by decide +kernel)) rfl
theorem q1082 : (Jvm.Cond.code ({ cls := "java/lang/Exception", name := "<init>", desc := "(Ljava/lang/String;)V" } : Jvm.MethodName) prog_16_method_2_code (2 : Nat) (Option.none : Option Jvm.ClassFile.FieldType)) ∈ zW := zW_t (List.mem_of_getElem? (i := 1082) (by decide +kernel)) rfl
theorem q1083 : (Jvm.Cond.methodLink "java/lang/Exception" (7 : Nat) ({ cls := "java/lang/Throwable", name := "<init>", desc := "(Ljava/lang/String;)V" } : Jvm.MethodName)) ∈ zW := zW_t (List.mem_of_getElem? (i := 1083) (by decide +kernel)) rfl
theorem q1084 : (Jvm.Cond.instanceMethod ({ cls := "java/lang/Throwable", name := "<init>", desc := "(Ljava/lang/String;)V" } : Jvm.MethodName)) ∈ zW := zW_t (List.mem_of_getElem? (i := 1084) (by decide +kernel)) rfl
theorem q1085 : (Jvm.Cond.code ({ cls := "java/lang/Throwable", name := "<init>", desc := "(Ljava/lang/String;)V" } : Jvm.MethodName) prog_23_method_2_code (2 : Nat) (Option.none : Option Jvm.ClassFile.FieldType)) ∈ zW := zW_t (List.mem_of_getElem? (i := 1085) (by decide +kernel)) rfl
theorem q1086 : (Jvm.Cond.fieldLink "java/lang/Throwable" (198 : Nat) "java/lang/Throwable" "backtrace" "Ljava/lang/Object;") ∈ zW := zW_t (List.mem_of_getElem? (i := 1086) (by decide +kernel)) rfl
theorem q1087 : (Jvm.Cond.fieldLink "java/lang/Throwable" (31 : Nat) "java/lang/Throwable" "detailMessage" "Ljava/lang/String;") ∈ zW := zW_t (List.mem_of_getElem? (i := 1087) (by decide +kernel)) rfl
theorem q1088 : (Jvm.Cond.fieldLink "java/lang/Throwable" (7 : Nat) "java/lang/Throwable" "cause" "Ljava/lang/Throwable;") ∈ zW := zW_t (List.mem_of_getElem? (i := 1088) (by decide +kernel)) rfl
theorem q1089 : (Jvm.Cond.fieldLink "java/lang/Throwable" (17 : Nat) "java/lang/Throwable" "stackTrace" "[Ljava/lang/StackTraceElement;") ∈ zW := zW_t (List.mem_of_getElem? (i := 1089) (by decide +kernel)) rfl
theorem q1090 : (Jvm.Cond.fieldLink "java/lang/Throwable" (24 : Nat) "java/lang/Throwable" "suppressedExceptions" "Ljava/util/List;") ∈ zW := zW_t (List.mem_of_getElem? (i := 1090) (by decide +kernel)) rfl
theorem q1095 : (Jvm.Cond.lays "java/util/NoSuchElementException" "java/lang/Throwable" "depth" "I") ∈ zW := zW_t (List.mem_of_getElem? (i := 1095) (by decide +kernel)) rfl
theorem q1099 : (Jvm.Cond.arrayClass Jvm.ClassFile.FieldType.byte) ∈ zW := zW_t (List.mem_of_getElem? (i := 1099) (by decide +kernel)) rfl
theorem q1100 : (Jvm.Cond.methodLink "TraceMachines" (178 : Nat) ({ cls := "TraceMachines$Traces", name := "letterAt", desc := "(II)I" } : Jvm.MethodName)) ∈ zW := zW_t (List.mem_of_getElem? (i := 1100) (by decide +kernel)) rfl
theorem q1101 : (Jvm.Cond.methodLink "TraceMachines" (186 : Nat) ({ cls := "TraceMachines$Traces", name := "valueAt", desc := "(II)I" } : Jvm.MethodName)) ∈ zW := zW_t (List.mem_of_getElem? (i := 1101) (by decide +kernel)) rfl
theorem q1102 : (Jvm.Cond.methodLink "TraceMachines" (193 : Nat) ({ cls := "TraceMachines$Tree", name := "prefixAt", desc := "(II)I" } : Jvm.MethodName)) ∈ zW := zW_t (List.mem_of_getElem? (i := 1102) (by decide +kernel)) rfl
theorem q1103 : (Jvm.Cond.methodLink "TraceMachinesLaw" (56 : Nat) ({ cls := "TraceMachinesModel", name := "thrown", desc := "()I" } : Jvm.MethodName)) ∈ zW := zW_t (List.mem_of_getElem? (i := 1103) (by decide +kernel)) rfl
theorem q1104 : (Jvm.Cond.instanceMethod ({ cls := "TraceMachinesModel", name := "thrown", desc := "()I" } : Jvm.MethodName)) ∈ zW := zW_t (List.mem_of_getElem? (i := 1104) (by decide +kernel)) rfl
theorem q1105 : (Jvm.Cond.selects "TraceMachinesModel" ({ cls := "TraceMachinesModel", name := "thrown", desc := "()I" } : Jvm.MethodName) ({ cls := "TraceMachinesModel", name := "thrown", desc := "()I" } : Jvm.MethodName)) ∈ zW := zW_t (List.mem_of_getElem? (i := 1105) (by decide +kernel)) rfl
theorem q1106 : (Jvm.Cond.code ({ cls := "TraceMachinesModel", name := "thrown", desc := "()I" } : Jvm.MethodName) prog_14_method_1_code (1 : Nat) (Option.some Jvm.ClassFile.FieldType.int)) ∈ zW := zW_t (List.mem_of_getElem? (i := 1106) (by decide +kernel)) rfl
theorem q1107 : (Jvm.Cond.classLink "TraceMachinesLaw" (16 : Nat) "TraceMachinesModel") ∈ zW := zW_t (List.mem_of_getElem? (i := 1107) (by decide +kernel)) rfl
theorem q1108 : (Jvm.Cond.instantiable "TraceMachinesModel" (54 : Nat)) ∈ zW := zW_t (List.mem_of_getElem? (i := 1108) (by decide +kernel)) rfl
theorem q1109 : (Jvm.Cond.methodLink "TraceMachinesLaw" (18 : Nat) ({ cls := "TraceMachinesModel", name := "<init>", desc := "()V" } : Jvm.MethodName)) ∈ zW := zW_t (List.mem_of_getElem? (i := 1109) (by decide +kernel)) rfl
theorem q1110 : (Jvm.Cond.instanceMethod ({ cls := "TraceMachinesModel", name := "<init>", desc := "()V" } : Jvm.MethodName)) ∈ zW := zW_t (List.mem_of_getElem? (i := 1110) (by decide +kernel)) rfl
theorem q1111 : (Jvm.Cond.code ({ cls := "TraceMachinesModel", name := "<init>", desc := "()V" } : Jvm.MethodName) prog_14_method_2_code (1 : Nat) (Option.none : Option Jvm.ClassFile.FieldType)) ∈ zW := zW_t (List.mem_of_getElem? (i := 1111) (by decide +kernel)) rfl
theorem q1112 : (Jvm.Cond.methodLink "TraceMachinesModel" (7 : Nat) ({ cls := "java/lang/Object", name := "<init>", desc := "()V" } : Jvm.MethodName)) ∈ zW := zW_t (List.mem_of_getElem? (i := 1112) (by decide +kernel)) rfl
theorem q1113 : (Jvm.Cond.fieldLink "TraceMachinesModel" (1 : Nat) "TraceMachinesModel" "thrown" "I") ∈ zW := zW_t (List.mem_of_getElem? (i := 1113) (by decide +kernel)) rfl
theorem q1114 : (Jvm.Cond.fieldLink "TraceMachinesModel" (13 : Nat) "TraceMachinesModel" "row" "[I") ∈ zW := zW_t (List.mem_of_getElem? (i := 1114) (by decide +kernel)) rfl
theorem q1115 : (Jvm.Cond.fieldLink "TraceMachinesModel" (17 : Nat) "TraceMachinesModel" "kept" "[I") ∈ zW := zW_t (List.mem_of_getElem? (i := 1115) (by decide +kernel)) rfl
theorem q1116 : (Jvm.Cond.fieldLink "TraceMachinesModel" (20 : Nat) "TraceMachinesModel" "isKept" "[Z") ∈ zW := zW_t (List.mem_of_getElem? (i := 1116) (by decide +kernel)) rfl
theorem q1117 : (Jvm.Cond.fieldLink "TraceMachinesModel" (24 : Nat) "TraceMachinesModel" "undos" "[I") ∈ zW := zW_t (List.mem_of_getElem? (i := 1117) (by decide +kernel)) rfl
theorem q1118 : (Jvm.Cond.fieldLink "TraceMachinesModel" (179 : Nat) "TraceMachinesModel" "nUndo" "I") ∈ zW := zW_t (List.mem_of_getElem? (i := 1118) (by decide +kernel)) rfl
theorem q1119 : (Jvm.Cond.fieldLink "TraceMachinesModel" (27 : Nat) "TraceMachinesModel" "text" "[B") ∈ zW := zW_t (List.mem_of_getElem? (i := 1119) (by decide +kernel)) rfl
theorem q1120 : (Jvm.Cond.fieldLink "TraceMachinesModel" (142 : Nat) "TraceMachinesModel" "texted" "I") ∈ zW := zW_t (List.mem_of_getElem? (i := 1120) (by decide +kernel)) rfl
theorem q1121 : (Jvm.Cond.fieldLink "TraceMachinesModel" (149 : Nat) "TraceMachinesModel" "reading" "I") ∈ zW := zW_t (List.mem_of_getElem? (i := 1121) (by decide +kernel)) rfl
theorem q1122 : (Jvm.Cond.fieldLink "TraceMachinesModel" (152 : Nat) "TraceMachinesModel" "fault" "I") ∈ zW := zW_t (List.mem_of_getElem? (i := 1122) (by decide +kernel)) rfl
theorem q1123 : (Jvm.Cond.fieldLink "TraceMachinesModel" (145 : Nat) "TraceMachinesModel" "isGood" "Z") ∈ zW := zW_t (List.mem_of_getElem? (i := 1123) (by decide +kernel)) rfl
theorem q1124 : (Jvm.Cond.fieldLink "TraceMachinesModel" (31 : Nat) "TraceMachinesModel" "draft" "[I") ∈ zW := zW_t (List.mem_of_getElem? (i := 1124) (by decide +kernel)) rfl
theorem q1125 : (Jvm.Cond.fieldLink "TraceMachinesModel" (34 : Nat) "TraceMachinesModel" "runLetter" "[I") ∈ zW := zW_t (List.mem_of_getElem? (i := 1125) (by decide +kernel)) rfl
theorem q1126 : (Jvm.Cond.fieldLink "TraceMachinesModel" (37 : Nat) "TraceMachinesModel" "runValue" "[I") ∈ zW := zW_t (List.mem_of_getElem? (i := 1126) (by decide +kernel)) rfl
theorem q1127 : (Jvm.Cond.fieldLink "TraceMachinesModel" (159 : Nat) "TraceMachinesModel" "runLong" "I") ∈ zW := zW_t (List.mem_of_getElem? (i := 1127) (by decide +kernel)) rfl
theorem q1128 : (Jvm.Cond.fieldLink "TraceMachinesModel" (40 : Nat) "TraceMachinesModel" "prefixMany" "[I") ∈ zW := zW_t (List.mem_of_getElem? (i := 1128) (by decide +kernel)) rfl
theorem q1129 : (Jvm.Cond.fieldLink "TraceMachinesModel" (43 : Nat) "TraceMachinesModel" "child" "[I") ∈ zW := zW_t (List.mem_of_getElem? (i := 1129) (by decide +kernel)) rfl
theorem q1130 : (Jvm.Cond.fieldLink "TraceMachinesModel" (46 : Nat) "TraceMachinesModel" "path" "[I") ∈ zW := zW_t (List.mem_of_getElem? (i := 1130) (by decide +kernel)) rfl
theorem q1131 : (Jvm.Cond.fieldLink "TraceMachinesModel" (49 : Nat) "TraceMachinesModel" "follows" "[I") ∈ zW := zW_t (List.mem_of_getElem? (i := 1131) (by decide +kernel)) rfl
theorem q1132 : (Jvm.Cond.fieldLink "TraceMachinesModel" (52 : Nat) "TraceMachinesModel" "followMany" "[I") ∈ zW := zW_t (List.mem_of_getElem? (i := 1132) (by decide +kernel)) rfl
theorem q1133 : (Jvm.Cond.fieldLink "TraceMachinesModel" (55 : Nat) "TraceMachinesModel" "stateOf" "[I") ∈ zW := zW_t (List.mem_of_getElem? (i := 1133) (by decide +kernel)) rfl
theorem q1134 : (Jvm.Cond.fieldLink "TraceMachinesModel" (58 : Nat) "TraceMachinesModel" "stateMany" "[I") ∈ zW := zW_t (List.mem_of_getElem? (i := 1134) (by decide +kernel)) rfl
theorem q1135 : (Jvm.Cond.fieldLink "TraceMachinesModel" (61 : Nat) "TraceMachinesModel" "least" "[I") ∈ zW := zW_t (List.mem_of_getElem? (i := 1135) (by decide +kernel)) rfl
theorem q1136 : (Jvm.Cond.fieldLink "TraceMachinesModel" (64 : Nat) "TraceMachinesModel" "prefixesOf" "[I") ∈ zW := zW_t (List.mem_of_getElem? (i := 1136) (by decide +kernel)) rfl
theorem q1137 : (Jvm.Cond.fieldLink "TraceMachinesModel" (67 : Nat) "TraceMachinesModel" "endsIn" "[I") ∈ zW := zW_t (List.mem_of_getElem? (i := 1137) (by decide +kernel)) rfl
theorem q1138 : (Jvm.Cond.fieldLink "TraceMachinesModel" (70 : Nat) "TraceMachinesModel" "edgeMany" "[I") ∈ zW := zW_t (List.mem_of_getElem? (i := 1138) (by decide +kernel)) rfl
theorem q1139 : (Jvm.Cond.fieldLink "TraceMachinesModel" (73 : Nat) "TraceMachinesModel" "edge" "[I") ∈ zW := zW_t (List.mem_of_getElem? (i := 1139) (by decide +kernel)) rfl
theorem q1140 : (Jvm.Cond.fieldLink "TraceMachinesModel" (228 : Nat) "TraceMachinesModel" "isThere" "Z") ∈ zW := zW_t (List.mem_of_getElem? (i := 1140) (by decide +kernel)) rfl
theorem q1141 : (Jvm.Cond.fieldLink "TraceMachinesModel" (76 : Nat) "TraceMachinesModel" "now" "[J") ∈ zW := zW_t (List.mem_of_getElem? (i := 1141) (by decide +kernel)) rfl
theorem q1142 : (Jvm.Cond.fieldLink "TraceMachinesModel" (80 : Nat) "TraceMachinesModel" "then" "[J") ∈ zW := zW_t (List.mem_of_getElem? (i := 1142) (by decide +kernel)) rfl
theorem q1143 : (Jvm.Cond.fieldLink "TraceMachinesModel" (290 : Nat) "TraceMachinesModel" "hasRun" "Z") ∈ zW := zW_t (List.mem_of_getElem? (i := 1143) (by decide +kernel)) rfl
theorem q1144 : (Jvm.Cond.fieldLink "TraceMachinesModel" (296 : Nat) "TraceMachinesModel" "ranAt" "I") ∈ zW := zW_t (List.mem_of_getElem? (i := 1144) (by decide +kernel)) rfl
theorem q1145 : (Jvm.Cond.fieldLink "TraceMachinesModel" (299 : Nat) "TraceMachinesModel" "ranMany" "I") ∈ zW := zW_t (List.mem_of_getElem? (i := 1145) (by decide +kernel)) rfl
theorem q1146 : (Jvm.Cond.fieldLink "TraceMachinesModel" (302 : Nat) "TraceMachinesModel" "ranLeast" "I") ∈ zW := zW_t (List.mem_of_getElem? (i := 1146) (by decide +kernel)) rfl
theorem q1147 : (Jvm.Cond.fieldLink "TraceMachinesModel" (83 : Nat) "TraceMachinesModel" "lowGo" "[J") ∈ zW := zW_t (List.mem_of_getElem? (i := 1147) (by decide +kernel)) rfl
theorem q1148 : (Jvm.Cond.fieldLink "TraceMachinesModel" (86 : Nat) "TraceMachinesModel" "highGo" "[J") ∈ zW := zW_t (List.mem_of_getElem? (i := 1148) (by decide +kernel)) rfl
theorem q1149 : (Jvm.Cond.fieldLink "TraceMachinesModel" (89 : Nat) "TraceMachinesModel" "goes" "[J") ∈ zW := zW_t (List.mem_of_getElem? (i := 1149) (by decide +kernel)) rfl
theorem q1150 : (Jvm.Cond.fieldLink "TraceMachinesModel" (92 : Nat) "TraceMachinesModel" "waysNow" "[J") ∈ zW := zW_t (List.mem_of_getElem? (i := 1150) (by decide +kernel)) rfl
theorem q1151 : (Jvm.Cond.fieldLink "TraceMachinesModel" (95 : Nat) "TraceMachinesModel" "waysThen" "[J") ∈ zW := zW_t (List.mem_of_getElem? (i := 1151) (by decide +kernel)) rfl
theorem q1152 : (Jvm.Cond.fieldLink "TraceMachinesModel" (98 : Nat) "TraceMachinesModel" "sets" "[J") ∈ zW := zW_t (List.mem_of_getElem? (i := 1152) (by decide +kernel)) rfl
theorem q1153 : (Jvm.Cond.fieldLink "TraceMachinesModel" (101 : Nat) "TraceMachinesModel" "setWords" "[I") ∈ zW := zW_t (List.mem_of_getElem? (i := 1153) (by decide +kernel)) rfl
theorem q1154 : (Jvm.Cond.fieldLink "TraceMachinesModel" (327 : Nat) "TraceMachinesModel" "setMany" "I") ∈ zW := zW_t (List.mem_of_getElem? (i := 1154) (by decide +kernel)) rfl
theorem q1155 : (Jvm.Cond.fieldLink "TraceMachinesModel" (104 : Nat) "TraceMachinesModel" "nextSets" "[J") ∈ zW := zW_t (List.mem_of_getElem? (i := 1155) (by decide +kernel)) rfl
theorem q1156 : (Jvm.Cond.fieldLink "TraceMachinesModel" (107 : Nat) "TraceMachinesModel" "nextWords" "[I") ∈ zW := zW_t (List.mem_of_getElem? (i := 1156) (by decide +kernel)) rfl
theorem q1157 : (Jvm.Cond.fieldLink "TraceMachinesModel" (320 : Nat) "TraceMachinesModel" "nextMany" "I") ∈ zW := zW_t (List.mem_of_getElem? (i := 1157) (by decide +kernel)) rfl
theorem q1158 : (Jvm.Cond.fieldLink "TraceMachinesModel" (110 : Nat) "TraceMachinesModel" "twos" "[J") ∈ zW := zW_t (List.mem_of_getElem? (i := 1158) (by decide +kernel)) rfl
theorem q1159 : (Jvm.Cond.fieldLink "TraceMachinesModel" (113 : Nat) "TraceMachinesModel" "twoFrom" "[I") ∈ zW := zW_t (List.mem_of_getElem? (i := 1159) (by decide +kernel)) rfl
theorem q1160 : (Jvm.Cond.fieldLink "TraceMachinesModel" (116 : Nat) "TraceMachinesModel" "twoBy" "[I") ∈ zW := zW_t (List.mem_of_getElem? (i := 1160) (by decide +kernel)) rfl
theorem q1161 : (Jvm.Cond.fieldLink "TraceMachinesModel" (119 : Nat) "TraceMachinesModel" "twoLong" "[I") ∈ zW := zW_t (List.mem_of_getElem? (i := 1161) (by decide +kernel)) rfl
theorem q1162 : (Jvm.Cond.fieldLink "TraceMachinesModel" (122 : Nat) "TraceMachinesModel" "two" "[J") ∈ zW := zW_t (List.mem_of_getElem? (i := 1162) (by decide +kernel)) rfl
theorem q1163 : (Jvm.Cond.fieldLink "TraceMachinesModel" (338 : Nat) "TraceMachinesModel" "twoMany" "I") ∈ zW := zW_t (List.mem_of_getElem? (i := 1163) (by decide +kernel)) rfl
theorem q1164 : (Jvm.Cond.fieldLink "TraceMachinesModel" (125 : Nat) "TraceMachinesModel" "walked" "[I") ∈ zW := zW_t (List.mem_of_getElem? (i := 1164) (by decide +kernel)) rfl
theorem q1165 : (Jvm.Cond.fieldLink "TraceMachinesModel" (128 : Nat) "TraceMachinesModel" "weak" "[I") ∈ zW := zW_t (List.mem_of_getElem? (i := 1165) (by decide +kernel)) rfl
theorem q1166 : (Jvm.Cond.fieldLink "TraceMachinesModel" (131 : Nat) "TraceMachinesModel" "weakMany" "[I") ∈ zW := zW_t (List.mem_of_getElem? (i := 1166) (by decide +kernel)) rfl
theorem q1167 : (Jvm.Cond.lays "TraceMachinesModel" "TraceMachinesModel" "thrown" "I") ∈ zW := zW_t (List.mem_of_getElem? (i := 1167) (by decide +kernel)) rfl
theorem q1169 : (Jvm.Cond.laysFinal "TraceMachinesModel" "TraceMachinesModel" "row" "[I") ∈ zW := zW_t (List.mem_of_getElem? (i := 1169) (by decide +kernel)) rfl
theorem q1171 : (Jvm.Cond.laysFinal "TraceMachinesModel" "TraceMachinesModel" "kept" "[I") ∈ zW := zW_t (List.mem_of_getElem? (i := 1171) (by decide +kernel)) rfl
theorem q1173 : (Jvm.Cond.laysFinal "TraceMachinesModel" "TraceMachinesModel" "isKept" "[Z") ∈ zW := zW_t (List.mem_of_getElem? (i := 1173) (by decide +kernel)) rfl
theorem q1175 : (Jvm.Cond.laysFinal "TraceMachinesModel" "TraceMachinesModel" "undos" "[I") ∈ zW := zW_t (List.mem_of_getElem? (i := 1175) (by decide +kernel)) rfl
theorem q1177 : (Jvm.Cond.lays "TraceMachinesModel" "TraceMachinesModel" "nUndo" "I") ∈ zW := zW_t (List.mem_of_getElem? (i := 1177) (by decide +kernel)) rfl
theorem q1179 : (Jvm.Cond.laysFinal "TraceMachinesModel" "TraceMachinesModel" "text" "[B") ∈ zW := zW_t (List.mem_of_getElem? (i := 1179) (by decide +kernel)) rfl
theorem q1181 : (Jvm.Cond.lays "TraceMachinesModel" "TraceMachinesModel" "texted" "I") ∈ zW := zW_t (List.mem_of_getElem? (i := 1181) (by decide +kernel)) rfl
theorem q1183 : (Jvm.Cond.lays "TraceMachinesModel" "TraceMachinesModel" "reading" "I") ∈ zW := zW_t (List.mem_of_getElem? (i := 1183) (by decide +kernel)) rfl
theorem q1185 : (Jvm.Cond.lays "TraceMachinesModel" "TraceMachinesModel" "fault" "I") ∈ zW := zW_t (List.mem_of_getElem? (i := 1185) (by decide +kernel)) rfl
theorem q1187 : (Jvm.Cond.lays "TraceMachinesModel" "TraceMachinesModel" "isGood" "Z") ∈ zW := zW_t (List.mem_of_getElem? (i := 1187) (by decide +kernel)) rfl
theorem q1189 : (Jvm.Cond.laysFinal "TraceMachinesModel" "TraceMachinesModel" "draft" "[I") ∈ zW := zW_t (List.mem_of_getElem? (i := 1189) (by decide +kernel)) rfl
theorem q1191 : (Jvm.Cond.laysFinal "TraceMachinesModel" "TraceMachinesModel" "runLetter" "[I") ∈ zW := zW_t (List.mem_of_getElem? (i := 1191) (by decide +kernel)) rfl
theorem q1193 : (Jvm.Cond.laysFinal "TraceMachinesModel" "TraceMachinesModel" "runValue" "[I") ∈ zW := zW_t (List.mem_of_getElem? (i := 1193) (by decide +kernel)) rfl
theorem q1195 : (Jvm.Cond.lays "TraceMachinesModel" "TraceMachinesModel" "runLong" "I") ∈ zW := zW_t (List.mem_of_getElem? (i := 1195) (by decide +kernel)) rfl
theorem q1197 : (Jvm.Cond.laysFinal "TraceMachinesModel" "TraceMachinesModel" "prefixMany" "[I") ∈ zW := zW_t (List.mem_of_getElem? (i := 1197) (by decide +kernel)) rfl
theorem q1199 : (Jvm.Cond.laysFinal "TraceMachinesModel" "TraceMachinesModel" "child" "[I") ∈ zW := zW_t (List.mem_of_getElem? (i := 1199) (by decide +kernel)) rfl
theorem q1201 : (Jvm.Cond.laysFinal "TraceMachinesModel" "TraceMachinesModel" "path" "[I") ∈ zW := zW_t (List.mem_of_getElem? (i := 1201) (by decide +kernel)) rfl
theorem q1203 : (Jvm.Cond.laysFinal "TraceMachinesModel" "TraceMachinesModel" "follows" "[I") ∈ zW := zW_t (List.mem_of_getElem? (i := 1203) (by decide +kernel)) rfl
theorem q1205 : (Jvm.Cond.laysFinal "TraceMachinesModel" "TraceMachinesModel" "followMany" "[I") ∈ zW := zW_t (List.mem_of_getElem? (i := 1205) (by decide +kernel)) rfl
theorem q1207 : (Jvm.Cond.laysFinal "TraceMachinesModel" "TraceMachinesModel" "stateOf" "[I") ∈ zW := zW_t (List.mem_of_getElem? (i := 1207) (by decide +kernel)) rfl
theorem q1209 : (Jvm.Cond.laysFinal "TraceMachinesModel" "TraceMachinesModel" "stateMany" "[I") ∈ zW := zW_t (List.mem_of_getElem? (i := 1209) (by decide +kernel)) rfl
theorem q1211 : (Jvm.Cond.laysFinal "TraceMachinesModel" "TraceMachinesModel" "least" "[I") ∈ zW := zW_t (List.mem_of_getElem? (i := 1211) (by decide +kernel)) rfl
theorem q1213 : (Jvm.Cond.laysFinal "TraceMachinesModel" "TraceMachinesModel" "prefixesOf" "[I") ∈ zW := zW_t (List.mem_of_getElem? (i := 1213) (by decide +kernel)) rfl
theorem q1215 : (Jvm.Cond.laysFinal "TraceMachinesModel" "TraceMachinesModel" "endsIn" "[I") ∈ zW := zW_t (List.mem_of_getElem? (i := 1215) (by decide +kernel)) rfl
theorem q1217 : (Jvm.Cond.laysFinal "TraceMachinesModel" "TraceMachinesModel" "edgeMany" "[I") ∈ zW := zW_t (List.mem_of_getElem? (i := 1217) (by decide +kernel)) rfl
theorem q1219 : (Jvm.Cond.laysFinal "TraceMachinesModel" "TraceMachinesModel" "edge" "[I") ∈ zW := zW_t (List.mem_of_getElem? (i := 1219) (by decide +kernel)) rfl
theorem q1221 : (Jvm.Cond.lays "TraceMachinesModel" "TraceMachinesModel" "isThere" "Z") ∈ zW := zW_t (List.mem_of_getElem? (i := 1221) (by decide +kernel)) rfl
theorem q1223 : (Jvm.Cond.laysFinal "TraceMachinesModel" "TraceMachinesModel" "now" "[J") ∈ zW := zW_t (List.mem_of_getElem? (i := 1223) (by decide +kernel)) rfl
theorem q1225 : (Jvm.Cond.laysFinal "TraceMachinesModel" "TraceMachinesModel" "then" "[J") ∈ zW := zW_t (List.mem_of_getElem? (i := 1225) (by decide +kernel)) rfl
theorem q1227 : (Jvm.Cond.lays "TraceMachinesModel" "TraceMachinesModel" "hasRun" "Z") ∈ zW := zW_t (List.mem_of_getElem? (i := 1227) (by decide +kernel)) rfl
theorem q1229 : (Jvm.Cond.lays "TraceMachinesModel" "TraceMachinesModel" "ranAt" "I") ∈ zW := zW_t (List.mem_of_getElem? (i := 1229) (by decide +kernel)) rfl
theorem q1231 : (Jvm.Cond.lays "TraceMachinesModel" "TraceMachinesModel" "ranMany" "I") ∈ zW := zW_t (List.mem_of_getElem? (i := 1231) (by decide +kernel)) rfl
theorem q1233 : (Jvm.Cond.lays "TraceMachinesModel" "TraceMachinesModel" "ranLeast" "I") ∈ zW := zW_t (List.mem_of_getElem? (i := 1233) (by decide +kernel)) rfl
theorem q1235 : (Jvm.Cond.laysFinal "TraceMachinesModel" "TraceMachinesModel" "lowGo" "[J") ∈ zW := zW_t (List.mem_of_getElem? (i := 1235) (by decide +kernel)) rfl
theorem q1237 : (Jvm.Cond.laysFinal "TraceMachinesModel" "TraceMachinesModel" "highGo" "[J") ∈ zW := zW_t (List.mem_of_getElem? (i := 1237) (by decide +kernel)) rfl
theorem q1239 : (Jvm.Cond.laysFinal "TraceMachinesModel" "TraceMachinesModel" "goes" "[J") ∈ zW := zW_t (List.mem_of_getElem? (i := 1239) (by decide +kernel)) rfl
theorem q1241 : (Jvm.Cond.laysFinal "TraceMachinesModel" "TraceMachinesModel" "waysNow" "[J") ∈ zW := zW_t (List.mem_of_getElem? (i := 1241) (by decide +kernel)) rfl
theorem q1243 : (Jvm.Cond.laysFinal "TraceMachinesModel" "TraceMachinesModel" "waysThen" "[J") ∈ zW := zW_t (List.mem_of_getElem? (i := 1243) (by decide +kernel)) rfl
theorem q1245 : (Jvm.Cond.laysFinal "TraceMachinesModel" "TraceMachinesModel" "sets" "[J") ∈ zW := zW_t (List.mem_of_getElem? (i := 1245) (by decide +kernel)) rfl
theorem q1247 : (Jvm.Cond.laysFinal "TraceMachinesModel" "TraceMachinesModel" "setWords" "[I") ∈ zW := zW_t (List.mem_of_getElem? (i := 1247) (by decide +kernel)) rfl
theorem q1249 : (Jvm.Cond.lays "TraceMachinesModel" "TraceMachinesModel" "setMany" "I") ∈ zW := zW_t (List.mem_of_getElem? (i := 1249) (by decide +kernel)) rfl
theorem q1251 : (Jvm.Cond.laysFinal "TraceMachinesModel" "TraceMachinesModel" "nextSets" "[J") ∈ zW := zW_t (List.mem_of_getElem? (i := 1251) (by decide +kernel)) rfl
theorem q1253 : (Jvm.Cond.laysFinal "TraceMachinesModel" "TraceMachinesModel" "nextWords" "[I") ∈ zW := zW_t (List.mem_of_getElem? (i := 1253) (by decide +kernel)) rfl
theorem q1255 : (Jvm.Cond.lays "TraceMachinesModel" "TraceMachinesModel" "nextMany" "I") ∈ zW := zW_t (List.mem_of_getElem? (i := 1255) (by decide +kernel)) rfl
theorem q1257 : (Jvm.Cond.laysFinal "TraceMachinesModel" "TraceMachinesModel" "twos" "[J") ∈ zW := zW_t (List.mem_of_getElem? (i := 1257) (by decide +kernel)) rfl
theorem q1259 : (Jvm.Cond.laysFinal "TraceMachinesModel" "TraceMachinesModel" "twoFrom" "[I") ∈ zW := zW_t (List.mem_of_getElem? (i := 1259) (by decide +kernel)) rfl
theorem q1261 : (Jvm.Cond.laysFinal "TraceMachinesModel" "TraceMachinesModel" "twoBy" "[I") ∈ zW := zW_t (List.mem_of_getElem? (i := 1261) (by decide +kernel)) rfl
theorem q1263 : (Jvm.Cond.laysFinal "TraceMachinesModel" "TraceMachinesModel" "twoLong" "[I") ∈ zW := zW_t (List.mem_of_getElem? (i := 1263) (by decide +kernel)) rfl
theorem q1265 : (Jvm.Cond.laysFinal "TraceMachinesModel" "TraceMachinesModel" "two" "[J") ∈ zW := zW_t (List.mem_of_getElem? (i := 1265) (by decide +kernel)) rfl
theorem q1267 : (Jvm.Cond.lays "TraceMachinesModel" "TraceMachinesModel" "twoMany" "I") ∈ zW := zW_t (List.mem_of_getElem? (i := 1267) (by decide +kernel)) rfl
theorem q1269 : (Jvm.Cond.laysFinal "TraceMachinesModel" "TraceMachinesModel" "walked" "[I") ∈ zW := zW_t (List.mem_of_getElem? (i := 1269) (by decide +kernel)) rfl
theorem q1271 : (Jvm.Cond.laysFinal "TraceMachinesModel" "TraceMachinesModel" "weak" "[I") ∈ zW := zW_t (List.mem_of_getElem? (i := 1271) (by decide +kernel)) rfl
theorem q1273 : (Jvm.Cond.laysFinal "TraceMachinesModel" "TraceMachinesModel" "weakMany" "[I") ∈ zW := zW_t (List.mem_of_getElem? (i := 1273) (by decide +kernel)) rfl
theorem q1276 : (Jvm.Cond.arrayClass Jvm.ClassFile.FieldType.boolean) ∈ zW := zW_t (List.mem_of_getElem? (i := 1276) (by decide +kernel)) rfl
theorem q1277 : (Jvm.Cond.methodLink "TraceMachinesLaw" (23 : Nat) ({ cls := "TraceMachinesModel", name := "sign", desc := "(I)I" } : Jvm.MethodName)) ∈ zW := zW_t (List.mem_of_getElem? (i := 1277) (by decide +kernel)) rfl
theorem q1278 : (Jvm.Cond.instanceMethod ({ cls := "TraceMachinesModel", name := "sign", desc := "(I)I" } : Jvm.MethodName)) ∈ zW := zW_t (List.mem_of_getElem? (i := 1278) (by decide +kernel)) rfl
theorem q1279 : (Jvm.Cond.selects "TraceMachinesModel" ({ cls := "TraceMachinesModel", name := "sign", desc := "(I)I" } : Jvm.MethodName) ({ cls := "TraceMachinesModel", name := "sign", desc := "(I)I" } : Jvm.MethodName)) ∈ zW := zW_t (List.mem_of_getElem? (i := 1279) (by decide +kernel)) rfl
theorem q1280 : (Jvm.Cond.code ({ cls := "TraceMachinesModel", name := "sign", desc := "(I)I" } : Jvm.MethodName) prog_14_method_9_code (3 : Nat) (Option.some Jvm.ClassFile.FieldType.int)) ∈ zW := zW_t (List.mem_of_getElem? (i := 1280) (by decide +kernel)) rfl
theorem q1281 : (Jvm.Cond.methodLink "TraceMachinesLaw" (28 : Nat) ({ cls := "TraceMachinesModel", name := "end", desc := "(I)Z" } : Jvm.MethodName)) ∈ zW := zW_t (List.mem_of_getElem? (i := 1281) (by decide +kernel)) rfl
theorem q1282 : (Jvm.Cond.instanceMethod ({ cls := "TraceMachinesModel", name := "end", desc := "(I)Z" } : Jvm.MethodName)) ∈ zW := zW_t (List.mem_of_getElem? (i := 1282) (by decide +kernel)) rfl
theorem q1283 : (Jvm.Cond.selects "TraceMachinesModel" ({ cls := "TraceMachinesModel", name := "end", desc := "(I)Z" } : Jvm.MethodName) ({ cls := "TraceMachinesModel", name := "end", desc := "(I)Z" } : Jvm.MethodName)) ∈ zW := zW_t (List.mem_of_getElem? (i := 1283) (by decide +kernel)) rfl
theorem q1284 : (Jvm.Cond.code ({ cls := "TraceMachinesModel", name := "end", desc := "(I)Z" } : Jvm.MethodName) prog_14_method_10_code (2 : Nat) (Option.some Jvm.ClassFile.FieldType.boolean)) ∈ zW := zW_t (List.mem_of_getElem? (i := 1284) (by decide +kernel)) rfl
theorem q1285 : (Jvm.Cond.methodLink "TraceMachinesModel" (138 : Nat) ({ cls := "TraceMachinesModel", name := "in", desc := "(JJJ)Z" } : Jvm.MethodName)) ∈ zW := zW_t (List.mem_of_getElem? (i := 1285) (by decide +kernel)) rfl
theorem q1286 : (Jvm.Cond.static ({ cls := "TraceMachinesModel", name := "in", desc := "(JJJ)Z" } : Jvm.MethodName)) ∈ zW := zW_t (List.mem_of_getElem? (i := 1286) (by decide +kernel)) rfl
theorem q1287 : (Jvm.Cond.code ({ cls := "TraceMachinesModel", name := "in", desc := "(JJJ)Z" } : Jvm.MethodName) prog_14_method_3_code (6 : Nat) (Option.some Jvm.ClassFile.FieldType.boolean)) ∈ zW := zW_t (List.mem_of_getElem? (i := 1287) (by decide +kernel)) rfl
theorem q1288 : (Jvm.Cond.methodLink "TraceMachinesLaw" (33 : Nat) ({ cls := "TraceMachinesModel", name := "traces", desc := "()I" } : Jvm.MethodName)) ∈ zW := zW_t (List.mem_of_getElem? (i := 1288) (by decide +kernel)) rfl
theorem q1289 : (Jvm.Cond.instanceMethod ({ cls := "TraceMachinesModel", name := "traces", desc := "()I" } : Jvm.MethodName)) ∈ zW := zW_t (List.mem_of_getElem? (i := 1289) (by decide +kernel)) rfl
theorem q1290 : (Jvm.Cond.selects "TraceMachinesModel" ({ cls := "TraceMachinesModel", name := "traces", desc := "()I" } : Jvm.MethodName) ({ cls := "TraceMachinesModel", name := "traces", desc := "()I" } : Jvm.MethodName)) ∈ zW := zW_t (List.mem_of_getElem? (i := 1290) (by decide +kernel)) rfl
theorem q1291 : (Jvm.Cond.code ({ cls := "TraceMachinesModel", name := "traces", desc := "()I" } : Jvm.MethodName) prog_14_method_18_code (2 : Nat) (Option.some Jvm.ClassFile.FieldType.int)) ∈ zW := zW_t (List.mem_of_getElem? (i := 1291) (by decide +kernel)) rfl
theorem q1292 : (Jvm.Cond.methodLink "TraceMachinesModel" (182 : Nat) ({ cls := "TraceMachinesModel", name := "readTrace", desc := "()V" } : Jvm.MethodName)) ∈ zW := zW_t (List.mem_of_getElem? (i := 1292) (by decide +kernel)) rfl
theorem q1294 : (Jvm.Cond.instanceMethod ({ cls := "TraceMachinesModel", name := "readTrace", desc := "()V" } : Jvm.MethodName)) ∈ zW := zW_t (List.mem_of_getElem? (i := 1294) (by decide +kernel)) rfl
theorem q1295 : (Jvm.Cond.code ({ cls := "TraceMachinesModel", name := "readTrace", desc := "()V" } : Jvm.MethodName) prog_14_method_15_code (3 : Nat) (Option.none : Option Jvm.ClassFile.FieldType)) ∈ zW := zW_t (List.mem_of_getElem? (i := 1295) (by decide +kernel)) rfl
theorem q1296 : (Jvm.Cond.methodLink "TraceMachinesModel" (162 : Nat) ({ cls := "TraceMachinesModel", name := "next", desc := "()I" } : Jvm.MethodName)) ∈ zW := zW_t (List.mem_of_getElem? (i := 1296) (by decide +kernel)) rfl
theorem q1298 : (Jvm.Cond.instanceMethod ({ cls := "TraceMachinesModel", name := "next", desc := "()I" } : Jvm.MethodName)) ∈ zW := zW_t (List.mem_of_getElem? (i := 1298) (by decide +kernel)) rfl
theorem q1299 : (Jvm.Cond.code ({ cls := "TraceMachinesModel", name := "next", desc := "()I" } : Jvm.MethodName) prog_14_method_12_code (1 : Nat) (Option.some Jvm.ClassFile.FieldType.int)) ∈ zW := zW_t (List.mem_of_getElem? (i := 1299) (by decide +kernel)) rfl
theorem q1300 : (Jvm.Cond.methodLink "TraceMachinesModel" (169 : Nat) ({ cls := "TraceMachinesModel", name := "wrong", desc := "()V" } : Jvm.MethodName)) ∈ zW := zW_t (List.mem_of_getElem? (i := 1300) (by decide +kernel)) rfl
theorem q1302 : (Jvm.Cond.instanceMethod ({ cls := "TraceMachinesModel", name := "wrong", desc := "()V" } : Jvm.MethodName)) ∈ zW := zW_t (List.mem_of_getElem? (i := 1302) (by decide +kernel)) rfl
theorem q1303 : (Jvm.Cond.code ({ cls := "TraceMachinesModel", name := "wrong", desc := "()V" } : Jvm.MethodName) prog_14_method_11_code (1 : Nat) (Option.none : Option Jvm.ClassFile.FieldType)) ∈ zW := zW_t (List.mem_of_getElem? (i := 1303) (by decide +kernel)) rfl
theorem q1304 : (Jvm.Cond.methodLink "TraceMachinesModel" (176 : Nat) ({ cls := "TraceMachinesModel", name := "readCalls", desc := "()V" } : Jvm.MethodName)) ∈ zW := zW_t (List.mem_of_getElem? (i := 1304) (by decide +kernel)) rfl
theorem q1306 : (Jvm.Cond.instanceMethod ({ cls := "TraceMachinesModel", name := "readCalls", desc := "()V" } : Jvm.MethodName)) ∈ zW := zW_t (List.mem_of_getElem? (i := 1306) (by decide +kernel)) rfl
theorem q1307 : (Jvm.Cond.code ({ cls := "TraceMachinesModel", name := "readCalls", desc := "()V" } : Jvm.MethodName) prog_14_method_14_code (3 : Nat) (Option.none : Option Jvm.ClassFile.FieldType)) ∈ zW := zW_t (List.mem_of_getElem? (i := 1307) (by decide +kernel)) rfl
theorem q1308 : (Jvm.Cond.constantLong "TraceMachinesModel" (165 : Nat) (97 : Int64)) ∈ zW := zW_t (List.mem_of_getElem? (i := 1308) (by decide +kernel)) rfl
theorem q1309 : (Jvm.Cond.constantLong "TraceMachinesModel" (167 : Nat) (106 : Int64)) ∈ zW := zW_t (List.mem_of_getElem? (i := 1309) (by decide +kernel)) rfl
theorem q1310 : (Jvm.Cond.methodLink "TraceMachinesModel" (172 : Nat) ({ cls := "TraceMachinesModel", name := "isDigitHere", desc := "()Z" } : Jvm.MethodName)) ∈ zW := zW_t (List.mem_of_getElem? (i := 1310) (by decide +kernel)) rfl
theorem q1312 : (Jvm.Cond.instanceMethod ({ cls := "TraceMachinesModel", name := "isDigitHere", desc := "()Z" } : Jvm.MethodName)) ∈ zW := zW_t (List.mem_of_getElem? (i := 1312) (by decide +kernel)) rfl
theorem q1313 : (Jvm.Cond.code ({ cls := "TraceMachinesModel", name := "isDigitHere", desc := "()Z" } : Jvm.MethodName) prog_14_method_13_code (1 : Nat) (Option.some Jvm.ClassFile.FieldType.boolean)) ∈ zW := zW_t (List.mem_of_getElem? (i := 1313) (by decide +kernel)) rfl
theorem q1314 : (Jvm.Cond.constantLong "TraceMachinesModel" (155 : Nat) (48 : Int64)) ∈ zW := zW_t (List.mem_of_getElem? (i := 1314) (by decide +kernel)) rfl
theorem q1315 : (Jvm.Cond.constantLong "TraceMachinesModel" (157 : Nat) (57 : Int64)) ∈ zW := zW_t (List.mem_of_getElem? (i := 1315) (by decide +kernel)) rfl
theorem q1316 : (Jvm.Cond.methodLink "TraceMachinesModel" (185 : Nat) ({ cls := "TraceMachinesModel", name := "endsReading", desc := "()V" } : Jvm.MethodName)) ∈ zW := zW_t (List.mem_of_getElem? (i := 1316) (by decide +kernel)) rfl
theorem q1318 : (Jvm.Cond.instanceMethod ({ cls := "TraceMachinesModel", name := "endsReading", desc := "()V" } : Jvm.MethodName)) ∈ zW := zW_t (List.mem_of_getElem? (i := 1318) (by decide +kernel)) rfl
theorem q1319 : (Jvm.Cond.code ({ cls := "TraceMachinesModel", name := "endsReading", desc := "()V" } : Jvm.MethodName) prog_14_method_17_code (1 : Nat) (Option.none : Option Jvm.ClassFile.FieldType)) ∈ zW := zW_t (List.mem_of_getElem? (i := 1319) (by decide +kernel)) rfl
theorem q1320 : (Jvm.Cond.methodLink "TraceMachinesModel" (188 : Nat) ({ cls := "TraceMachinesModel", name := "remember", desc := "()V" } : Jvm.MethodName)) ∈ zW := zW_t (List.mem_of_getElem? (i := 1320) (by decide +kernel)) rfl
theorem q1322 : (Jvm.Cond.instanceMethod ({ cls := "TraceMachinesModel", name := "remember", desc := "()V" } : Jvm.MethodName)) ∈ zW := zW_t (List.mem_of_getElem? (i := 1322) (by decide +kernel)) rfl
theorem q1323 : (Jvm.Cond.code ({ cls := "TraceMachinesModel", name := "remember", desc := "()V" } : Jvm.MethodName) prog_14_method_16_code (2 : Nat) (Option.none : Option Jvm.ClassFile.FieldType)) ∈ zW := zW_t (List.mem_of_getElem? (i := 1323) (by decide +kernel)) rfl
theorem q1324 : (Jvm.Cond.methodLink "TraceMachinesModel" (134 : Nat) ({ cls := "TraceMachinesModel", name := "many", desc := "()I" } : Jvm.MethodName)) ∈ zW := zW_t (List.mem_of_getElem? (i := 1324) (by decide +kernel)) rfl
theorem q1326 : (Jvm.Cond.instanceMethod ({ cls := "TraceMachinesModel", name := "many", desc := "()I" } : Jvm.MethodName)) ∈ zW := zW_t (List.mem_of_getElem? (i := 1326) (by decide +kernel)) rfl
theorem q1327 : (Jvm.Cond.code ({ cls := "TraceMachinesModel", name := "many", desc := "()I" } : Jvm.MethodName) prog_14_method_4_code (1 : Nat) (Option.some Jvm.ClassFile.FieldType.int)) ∈ zW := zW_t (List.mem_of_getElem? (i := 1327) (by decide +kernel)) rfl
theorem q1328 : (Jvm.Cond.methodLink "TraceMachinesLaw" (37 : Nat) ({ cls := "TraceMachinesModel", name := "drop", desc := "(I)I" } : Jvm.MethodName)) ∈ zW := zW_t (List.mem_of_getElem? (i := 1328) (by decide +kernel)) rfl
theorem q1329 : (Jvm.Cond.instanceMethod ({ cls := "TraceMachinesModel", name := "drop", desc := "(I)I" } : Jvm.MethodName)) ∈ zW := zW_t (List.mem_of_getElem? (i := 1329) (by decide +kernel)) rfl
theorem q1330 : (Jvm.Cond.selects "TraceMachinesModel" ({ cls := "TraceMachinesModel", name := "drop", desc := "(I)I" } : Jvm.MethodName) ({ cls := "TraceMachinesModel", name := "drop", desc := "(I)I" } : Jvm.MethodName)) ∈ zW := zW_t (List.mem_of_getElem? (i := 1330) (by decide +kernel)) rfl
theorem q1331 : (Jvm.Cond.code ({ cls := "TraceMachinesModel", name := "drop", desc := "(I)I" } : Jvm.MethodName) prog_14_method_19_code (4 : Nat) (Option.some Jvm.ClassFile.FieldType.int)) ∈ zW := zW_t (List.mem_of_getElem? (i := 1331) (by decide +kernel)) rfl
theorem q1332 : (Jvm.Cond.methodLink "TraceMachinesModel" (191 : Nat) ({ cls := "TraceMachinesModel", name := "isTrace", desc := "(I)Z" } : Jvm.MethodName)) ∈ zW := zW_t (List.mem_of_getElem? (i := 1332) (by decide +kernel)) rfl
theorem q1334 : (Jvm.Cond.instanceMethod ({ cls := "TraceMachinesModel", name := "isTrace", desc := "(I)Z" } : Jvm.MethodName)) ∈ zW := zW_t (List.mem_of_getElem? (i := 1334) (by decide +kernel)) rfl
theorem q1335 : (Jvm.Cond.code ({ cls := "TraceMachinesModel", name := "isTrace", desc := "(I)Z" } : Jvm.MethodName) prog_14_method_5_code (2 : Nat) (Option.some Jvm.ClassFile.FieldType.boolean)) ∈ zW := zW_t (List.mem_of_getElem? (i := 1335) (by decide +kernel)) rfl
theorem q1336 : (Jvm.Cond.methodLink "TraceMachinesLaw" (41 : Nat) ({ cls := "TraceMachinesModel", name := "depth", desc := "(I)I" } : Jvm.MethodName)) ∈ zW := zW_t (List.mem_of_getElem? (i := 1336) (by decide +kernel)) rfl
theorem q1337 : (Jvm.Cond.instanceMethod ({ cls := "TraceMachinesModel", name := "depth", desc := "(I)I" } : Jvm.MethodName)) ∈ zW := zW_t (List.mem_of_getElem? (i := 1337) (by decide +kernel)) rfl
theorem q1338 : (Jvm.Cond.selects "TraceMachinesModel" ({ cls := "TraceMachinesModel", name := "depth", desc := "(I)I" } : Jvm.MethodName) ({ cls := "TraceMachinesModel", name := "depth", desc := "(I)I" } : Jvm.MethodName)) ∈ zW := zW_t (List.mem_of_getElem? (i := 1338) (by decide +kernel)) rfl
theorem q1339 : (Jvm.Cond.code ({ cls := "TraceMachinesModel", name := "depth", desc := "(I)I" } : Jvm.MethodName) prog_14_method_21_code (2 : Nat) (Option.some Jvm.ClassFile.FieldType.int)) ∈ zW := zW_t (List.mem_of_getElem? (i := 1339) (by decide +kernel)) rfl
theorem q1340 : (Jvm.Cond.methodLink "TraceMachinesModel" (195 : Nat) ({ cls := "TraceMachinesModel", name := "change", desc := "(III)I" } : Jvm.MethodName)) ∈ zW := zW_t (List.mem_of_getElem? (i := 1340) (by decide +kernel)) rfl
theorem q1342 : (Jvm.Cond.instanceMethod ({ cls := "TraceMachinesModel", name := "change", desc := "(III)I" } : Jvm.MethodName)) ∈ zW := zW_t (List.mem_of_getElem? (i := 1342) (by decide +kernel)) rfl
theorem q1343 : (Jvm.Cond.code ({ cls := "TraceMachinesModel", name := "change", desc := "(III)I" } : Jvm.MethodName) prog_14_method_20_code (5 : Nat) (Option.some Jvm.ClassFile.FieldType.int)) ∈ zW := zW_t (List.mem_of_getElem? (i := 1343) (by decide +kernel)) rfl
theorem q1344 : (Jvm.Cond.methodLink "TraceMachinesLaw" (45 : Nat) ({ cls := "TraceMachinesModel", name := "margin", desc := "(I)I" } : Jvm.MethodName)) ∈ zW := zW_t (List.mem_of_getElem? (i := 1344) (by decide +kernel)) rfl
theorem q1345 : (Jvm.Cond.instanceMethod ({ cls := "TraceMachinesModel", name := "margin", desc := "(I)I" } : Jvm.MethodName)) ∈ zW := zW_t (List.mem_of_getElem? (i := 1345) (by decide +kernel)) rfl
theorem q1346 : (Jvm.Cond.selects "TraceMachinesModel" ({ cls := "TraceMachinesModel", name := "margin", desc := "(I)I" } : Jvm.MethodName) ({ cls := "TraceMachinesModel", name := "margin", desc := "(I)I" } : Jvm.MethodName)) ∈ zW := zW_t (List.mem_of_getElem? (i := 1346) (by decide +kernel)) rfl
theorem q1347 : (Jvm.Cond.code ({ cls := "TraceMachinesModel", name := "margin", desc := "(I)I" } : Jvm.MethodName) prog_14_method_22_code (2 : Nat) (Option.some Jvm.ClassFile.FieldType.int)) ∈ zW := zW_t (List.mem_of_getElem? (i := 1347) (by decide +kernel)) rfl
theorem q1348 : (Jvm.Cond.methodLink "TraceMachinesLaw" (49 : Nat) ({ cls := "TraceMachinesModel", name := "undo", desc := "()I" } : Jvm.MethodName)) ∈ zW := zW_t (List.mem_of_getElem? (i := 1348) (by decide +kernel)) rfl
theorem q1349 : (Jvm.Cond.instanceMethod ({ cls := "TraceMachinesModel", name := "undo", desc := "()I" } : Jvm.MethodName)) ∈ zW := zW_t (List.mem_of_getElem? (i := 1349) (by decide +kernel)) rfl
theorem q1350 : (Jvm.Cond.selects "TraceMachinesModel" ({ cls := "TraceMachinesModel", name := "undo", desc := "()I" } : Jvm.MethodName) ({ cls := "TraceMachinesModel", name := "undo", desc := "()I" } : Jvm.MethodName)) ∈ zW := zW_t (List.mem_of_getElem? (i := 1350) (by decide +kernel)) rfl
theorem q1351 : (Jvm.Cond.code ({ cls := "TraceMachinesModel", name := "undo", desc := "()I" } : Jvm.MethodName) prog_14_method_23_code (2 : Nat) (Option.some Jvm.ClassFile.FieldType.int)) ∈ zW := zW_t (List.mem_of_getElem? (i := 1351) (by decide +kernel)) rfl
theorem q1352 : (Jvm.Cond.methodLink "TraceMachinesLaw" (55 : Nat) ({ cls := "TraceMachinesModel", name := "call", desc := "(III)I" } : Jvm.MethodName)) ∈ zW := zW_t (List.mem_of_getElem? (i := 1352) (by decide +kernel)) rfl
theorem q1353 : (Jvm.Cond.instanceMethod ({ cls := "TraceMachinesModel", name := "call", desc := "(III)I" } : Jvm.MethodName)) ∈ zW := zW_t (List.mem_of_getElem? (i := 1353) (by decide +kernel)) rfl
theorem q1354 : (Jvm.Cond.selects "TraceMachinesModel" ({ cls := "TraceMachinesModel", name := "call", desc := "(III)I" } : Jvm.MethodName) ({ cls := "TraceMachinesModel", name := "call", desc := "(III)I" } : Jvm.MethodName)) ∈ zW := zW_t (List.mem_of_getElem? (i := 1354) (by decide +kernel)) rfl
theorem q1355 : (Jvm.Cond.code ({ cls := "TraceMachinesModel", name := "call", desc := "(III)I" } : Jvm.MethodName) prog_14_method_38_code (4 : Nat) (Option.some Jvm.ClassFile.FieldType.int)) ∈ zW := zW_t (List.mem_of_getElem? (i := 1355) (by decide +kernel)) rfl
theorem q1356 : (Jvm.Cond.methodLink "TraceMachinesModel" (203 : Nat) ({ cls := "TraceMachinesModel", name := "calls", desc := "(I)I" } : Jvm.MethodName)) ∈ zW := zW_t (List.mem_of_getElem? (i := 1356) (by decide +kernel)) rfl
theorem q1358 : (Jvm.Cond.instanceMethod ({ cls := "TraceMachinesModel", name := "calls", desc := "(I)I" } : Jvm.MethodName)) ∈ zW := zW_t (List.mem_of_getElem? (i := 1358) (by decide +kernel)) rfl
theorem q1359 : (Jvm.Cond.code ({ cls := "TraceMachinesModel", name := "calls", desc := "(I)I" } : Jvm.MethodName) prog_14_method_6_code (2 : Nat) (Option.some Jvm.ClassFile.FieldType.int)) ∈ zW := zW_t (List.mem_of_getElem? (i := 1359) (by decide +kernel)) rfl
theorem q1360 : (Jvm.Cond.methodLink "TraceMachinesModel" (254 : Nat) ({ cls := "TraceMachinesModel", name := "lay", desc := "()V" } : Jvm.MethodName)) ∈ zW := zW_t (List.mem_of_getElem? (i := 1360) (by decide +kernel)) rfl
theorem q1362 : (Jvm.Cond.instanceMethod ({ cls := "TraceMachinesModel", name := "lay", desc := "()V" } : Jvm.MethodName)) ∈ zW := zW_t (List.mem_of_getElem? (i := 1362) (by decide +kernel)) rfl
theorem q1363 : (Jvm.Cond.code ({ cls := "TraceMachinesModel", name := "lay", desc := "()V" } : Jvm.MethodName) prog_14_method_36_code (1 : Nat) (Option.none : Option Jvm.ClassFile.FieldType)) ∈ zW := zW_t (List.mem_of_getElem? (i := 1363) (by decide +kernel)) rfl
theorem q1364 : (Jvm.Cond.methodLink "TraceMachinesModel" (251 : Nat) ({ cls := "TraceMachinesModel", name := "lay", desc := "(III)V" } : Jvm.MethodName)) ∈ zW := zW_t (List.mem_of_getElem? (i := 1364) (by decide +kernel)) rfl
theorem q1366 : (Jvm.Cond.instanceMethod ({ cls := "TraceMachinesModel", name := "lay", desc := "(III)V" } : Jvm.MethodName)) ∈ zW := zW_t (List.mem_of_getElem? (i := 1366) (by decide +kernel)) rfl
theorem q1367 : (Jvm.Cond.code ({ cls := "TraceMachinesModel", name := "lay", desc := "(III)V" } : Jvm.MethodName) prog_14_method_35_code (6 : Nat) (Option.none : Option Jvm.ClassFile.FieldType)) ∈ zW := zW_t (List.mem_of_getElem? (i := 1367) (by decide +kernel)) rfl
theorem q1368 : (Jvm.Cond.methodLink "TraceMachinesModel" (241 : Nat) ({ cls := "TraceMachinesModel", name := "layPrefixes", desc := "(II)V" } : Jvm.MethodName)) ∈ zW := zW_t (List.mem_of_getElem? (i := 1368) (by decide +kernel)) rfl
theorem q1370 : (Jvm.Cond.instanceMethod ({ cls := "TraceMachinesModel", name := "layPrefixes", desc := "(II)V" } : Jvm.MethodName)) ∈ zW := zW_t (List.mem_of_getElem? (i := 1370) (by decide +kernel)) rfl
theorem q1371 : (Jvm.Cond.code ({ cls := "TraceMachinesModel", name := "layPrefixes", desc := "(II)V" } : Jvm.MethodName) prog_14_method_27_code (7 : Nat) (Option.none : Option Jvm.ClassFile.FieldType)) ∈ zW := zW_t (List.mem_of_getElem? (i := 1371) (by decide +kernel)) rfl
theorem q1372 : (Jvm.Cond.methodLink "TraceMachinesModel" (199 : Nat) ({ cls := "TraceMachinesModel", name := "newPrefix", desc := "(I)V" } : Jvm.MethodName)) ∈ zW := zW_t (List.mem_of_getElem? (i := 1372) (by decide +kernel)) rfl
theorem q1374 : (Jvm.Cond.instanceMethod ({ cls := "TraceMachinesModel", name := "newPrefix", desc := "(I)V" } : Jvm.MethodName)) ∈ zW := zW_t (List.mem_of_getElem? (i := 1374) (by decide +kernel)) rfl
theorem q1375 : (Jvm.Cond.code ({ cls := "TraceMachinesModel", name := "newPrefix", desc := "(I)V" } : Jvm.MethodName) prog_14_method_26_code (4 : Nat) (Option.none : Option Jvm.ClassFile.FieldType)) ∈ zW := zW_t (List.mem_of_getElem? (i := 1375) (by decide +kernel)) rfl
theorem q1376 : (Jvm.Cond.methodLink "TraceMachinesModel" (207 : Nat) ({ cls := "TraceMachinesModel", name := "letterAt", desc := "(II)I" } : Jvm.MethodName)) ∈ zW := zW_t (List.mem_of_getElem? (i := 1376) (by decide +kernel)) rfl
theorem q1378 : (Jvm.Cond.instanceMethod ({ cls := "TraceMachinesModel", name := "letterAt", desc := "(II)I" } : Jvm.MethodName)) ∈ zW := zW_t (List.mem_of_getElem? (i := 1378) (by decide +kernel)) rfl
theorem q1379 : (Jvm.Cond.code ({ cls := "TraceMachinesModel", name := "letterAt", desc := "(II)I" } : Jvm.MethodName) prog_14_method_7_code (3 : Nat) (Option.some Jvm.ClassFile.FieldType.int)) ∈ zW := zW_t (List.mem_of_getElem? (i := 1379) (by decide +kernel)) rfl
theorem q1380 : (Jvm.Cond.methodLink "TraceMachinesModel" (244 : Nat) ({ cls := "TraceMachinesModel", name := "layStates", desc := "(III)V" } : Jvm.MethodName)) ∈ zW := zW_t (List.mem_of_getElem? (i := 1380) (by decide +kernel)) rfl
theorem q1382 : (Jvm.Cond.instanceMethod ({ cls := "TraceMachinesModel", name := "layStates", desc := "(III)V" } : Jvm.MethodName)) ∈ zW := zW_t (List.mem_of_getElem? (i := 1382) (by decide +kernel)) rfl
theorem q1383 : (Jvm.Cond.code ({ cls := "TraceMachinesModel", name := "layStates", desc := "(III)V" } : Jvm.MethodName) prog_14_method_31_code (8 : Nat) (Option.none : Option Jvm.ClassFile.FieldType)) ∈ zW := zW_t (List.mem_of_getElem? (i := 1383) (by decide +kernel)) rfl
theorem q1384 : (Jvm.Cond.methodLink "TraceMachinesModel" (211 : Nat) ({ cls := "TraceMachinesModel", name := "pathOf", desc := "(III)I" } : Jvm.MethodName)) ∈ zW := zW_t (List.mem_of_getElem? (i := 1384) (by decide +kernel)) rfl
theorem q1386 : (Jvm.Cond.instanceMethod ({ cls := "TraceMachinesModel", name := "pathOf", desc := "(III)I" } : Jvm.MethodName)) ∈ zW := zW_t (List.mem_of_getElem? (i := 1386) (by decide +kernel)) rfl
theorem q1387 : (Jvm.Cond.code ({ cls := "TraceMachinesModel", name := "pathOf", desc := "(III)I" } : Jvm.MethodName) prog_14_method_24_code (4 : Nat) (Option.some Jvm.ClassFile.FieldType.int)) ∈ zW := zW_t (List.mem_of_getElem? (i := 1387) (by decide +kernel)) rfl
theorem q1388 : (Jvm.Cond.methodLink "TraceMachinesModel" (214 : Nat) ({ cls := "TraceMachinesModel", name := "rowBehind", desc := "(III)I" } : Jvm.MethodName)) ∈ zW := zW_t (List.mem_of_getElem? (i := 1388) (by decide +kernel)) rfl
theorem q1390 : (Jvm.Cond.instanceMethod ({ cls := "TraceMachinesModel", name := "rowBehind", desc := "(III)I" } : Jvm.MethodName)) ∈ zW := zW_t (List.mem_of_getElem? (i := 1390) (by decide +kernel)) rfl
theorem q1391 : (Jvm.Cond.code ({ cls := "TraceMachinesModel", name := "rowBehind", desc := "(III)I" } : Jvm.MethodName) prog_14_method_29_code (7 : Nat) (Option.some Jvm.ClassFile.FieldType.int)) ∈ zW := zW_t (List.mem_of_getElem? (i := 1391) (by decide +kernel)) rfl
theorem q1392 : (Jvm.Cond.methodLink "TraceMachinesModel" (217 : Nat) ({ cls := "TraceMachinesModel", name := "addFollow", desc := "(II)V" } : Jvm.MethodName)) ∈ zW := zW_t (List.mem_of_getElem? (i := 1392) (by decide +kernel)) rfl
theorem q1394 : (Jvm.Cond.instanceMethod ({ cls := "TraceMachinesModel", name := "addFollow", desc := "(II)V" } : Jvm.MethodName)) ∈ zW := zW_t (List.mem_of_getElem? (i := 1394) (by decide +kernel)) rfl
theorem q1395 : (Jvm.Cond.code ({ cls := "TraceMachinesModel", name := "addFollow", desc := "(II)V" } : Jvm.MethodName) prog_14_method_28_code (6 : Nat) (Option.none : Option Jvm.ClassFile.FieldType)) ∈ zW := zW_t (List.mem_of_getElem? (i := 1395) (by decide +kernel)) rfl
theorem q1396 : (Jvm.Cond.methodLink "TraceMachinesModel" (221 : Nat) ({ cls := "TraceMachinesModel", name := "areAlike", desc := "(II)Z" } : Jvm.MethodName)) ∈ zW := zW_t (List.mem_of_getElem? (i := 1396) (by decide +kernel)) rfl
theorem q1398 : (Jvm.Cond.instanceMethod ({ cls := "TraceMachinesModel", name := "areAlike", desc := "(II)Z" } : Jvm.MethodName)) ∈ zW := zW_t (List.mem_of_getElem? (i := 1398) (by decide +kernel)) rfl
theorem q1399 : (Jvm.Cond.code ({ cls := "TraceMachinesModel", name := "areAlike", desc := "(II)Z" } : Jvm.MethodName) prog_14_method_30_code (5 : Nat) (Option.some Jvm.ClassFile.FieldType.boolean)) ∈ zW := zW_t (List.mem_of_getElem? (i := 1399) (by decide +kernel)) rfl
theorem q1400 : (Jvm.Cond.methodLink "TraceMachinesModel" (248 : Nat) ({ cls := "TraceMachinesModel", name := "addEdge", desc := "(III)V" } : Jvm.MethodName)) ∈ zW := zW_t (List.mem_of_getElem? (i := 1400) (by decide +kernel)) rfl
theorem q1402 : (Jvm.Cond.instanceMethod ({ cls := "TraceMachinesModel", name := "addEdge", desc := "(III)V" } : Jvm.MethodName)) ∈ zW := zW_t (List.mem_of_getElem? (i := 1402) (by decide +kernel)) rfl
theorem q1403 : (Jvm.Cond.code ({ cls := "TraceMachinesModel", name := "addEdge", desc := "(III)V" } : Jvm.MethodName) prog_14_method_34_code (10 : Nat) (Option.none : Option Jvm.ClassFile.FieldType)) ∈ zW := zW_t (List.mem_of_getElem? (i := 1403) (by decide +kernel)) rfl
theorem q1404 : (Jvm.Cond.methodLink "TraceMachinesModel" (231 : Nat) ({ cls := "TraceMachinesModel", name := "stateAt", desc := "(III)I" } : Jvm.MethodName)) ∈ zW := zW_t (List.mem_of_getElem? (i := 1404) (by decide +kernel)) rfl
theorem q1406 : (Jvm.Cond.instanceMethod ({ cls := "TraceMachinesModel", name := "stateAt", desc := "(III)I" } : Jvm.MethodName)) ∈ zW := zW_t (List.mem_of_getElem? (i := 1406) (by decide +kernel)) rfl
theorem q1407 : (Jvm.Cond.code ({ cls := "TraceMachinesModel", name := "stateAt", desc := "(III)I" } : Jvm.MethodName) prog_14_method_32_code (4 : Nat) (Option.some Jvm.ClassFile.FieldType.int)) ∈ zW := zW_t (List.mem_of_getElem? (i := 1407) (by decide +kernel)) rfl
theorem q1408 : (Jvm.Cond.methodLink "TraceMachinesModel" (234 : Nat) ({ cls := "TraceMachinesModel", name := "placeOf", desc := "(IIII)I" } : Jvm.MethodName)) ∈ zW := zW_t (List.mem_of_getElem? (i := 1408) (by decide +kernel)) rfl
theorem q1410 : (Jvm.Cond.instanceMethod ({ cls := "TraceMachinesModel", name := "placeOf", desc := "(IIII)I" } : Jvm.MethodName)) ∈ zW := zW_t (List.mem_of_getElem? (i := 1410) (by decide +kernel)) rfl
theorem q1411 : (Jvm.Cond.code ({ cls := "TraceMachinesModel", name := "placeOf", desc := "(IIII)I" } : Jvm.MethodName) prog_14_method_33_code (8 : Nat) (Option.some Jvm.ClassFile.FieldType.int)) ∈ zW := zW_t (List.mem_of_getElem? (i := 1411) (by decide +kernel)) rfl
theorem q1412 : (Jvm.Cond.methodLink "TraceMachinesModel" (225 : Nat) ({ cls := "TraceMachinesModel", name := "edgeAt", desc := "(III)I" } : Jvm.MethodName)) ∈ zW := zW_t (List.mem_of_getElem? (i := 1412) (by decide +kernel)) rfl
theorem q1414 : (Jvm.Cond.instanceMethod ({ cls := "TraceMachinesModel", name := "edgeAt", desc := "(III)I" } : Jvm.MethodName)) ∈ zW := zW_t (List.mem_of_getElem? (i := 1414) (by decide +kernel)) rfl
theorem q1415 : (Jvm.Cond.code ({ cls := "TraceMachinesModel", name := "edgeAt", desc := "(III)I" } : Jvm.MethodName) prog_14_method_25_code (4 : Nat) (Option.some Jvm.ClassFile.FieldType.int)) ∈ zW := zW_t (List.mem_of_getElem? (i := 1415) (by decide +kernel)) rfl
theorem q1416 : (Jvm.Cond.methodLink "TraceMachinesModel" (238 : Nat) ({ cls := "TraceMachinesModel", name := "valueAt", desc := "(II)I" } : Jvm.MethodName)) ∈ zW := zW_t (List.mem_of_getElem? (i := 1416) (by decide +kernel)) rfl
theorem q1418 : (Jvm.Cond.instanceMethod ({ cls := "TraceMachinesModel", name := "valueAt", desc := "(II)I" } : Jvm.MethodName)) ∈ zW := zW_t (List.mem_of_getElem? (i := 1418) (by decide +kernel)) rfl
theorem q1419 : (Jvm.Cond.code ({ cls := "TraceMachinesModel", name := "valueAt", desc := "(II)I" } : Jvm.MethodName) prog_14_method_8_code (3 : Nat) (Option.some Jvm.ClassFile.FieldType.int)) ∈ zW := zW_t (List.mem_of_getElem? (i := 1419) (by decide +kernel)) rfl
theorem q1420 : (Jvm.Cond.methodLink "TraceMachinesLaw" (63 : Nat) ({ cls := "TraceMachinesModel", name := "state", desc := "(II)I" } : Jvm.MethodName)) ∈ zW := zW_t (List.mem_of_getElem? (i := 1420) (by decide +kernel)) rfl
theorem q1421 : (Jvm.Cond.instanceMethod ({ cls := "TraceMachinesModel", name := "state", desc := "(II)I" } : Jvm.MethodName)) ∈ zW := zW_t (List.mem_of_getElem? (i := 1421) (by decide +kernel)) rfl
theorem q1422 : (Jvm.Cond.selects "TraceMachinesModel" ({ cls := "TraceMachinesModel", name := "state", desc := "(II)I" } : Jvm.MethodName) ({ cls := "TraceMachinesModel", name := "state", desc := "(II)I" } : Jvm.MethodName)) ∈ zW := zW_t (List.mem_of_getElem? (i := 1422) (by decide +kernel)) rfl
theorem q1423 : (Jvm.Cond.code ({ cls := "TraceMachinesModel", name := "state", desc := "(II)I" } : Jvm.MethodName) prog_14_method_40_code (3 : Nat) (Option.some Jvm.ClassFile.FieldType.int)) ∈ zW := zW_t (List.mem_of_getElem? (i := 1423) (by decide +kernel)) rfl
theorem q1424 : (Jvm.Cond.methodLink "TraceMachinesModel" (256 : Nat) ({ cls := "TraceMachinesModel", name := "isFinal", desc := "(II)Z" } : Jvm.MethodName)) ∈ zW := zW_t (List.mem_of_getElem? (i := 1424) (by decide +kernel)) rfl
theorem q1426 : (Jvm.Cond.instanceMethod ({ cls := "TraceMachinesModel", name := "isFinal", desc := "(II)Z" } : Jvm.MethodName)) ∈ zW := zW_t (List.mem_of_getElem? (i := 1426) (by decide +kernel)) rfl
theorem q1427 : (Jvm.Cond.code ({ cls := "TraceMachinesModel", name := "isFinal", desc := "(II)Z" } : Jvm.MethodName) prog_14_method_37_code (3 : Nat) (Option.some Jvm.ClassFile.FieldType.boolean)) ∈ zW := zW_t (List.mem_of_getElem? (i := 1427) (by decide +kernel)) rfl
theorem q1428 : (Jvm.Cond.methodLink "TraceMachinesModel" (259 : Nat) ({ cls := "TraceMachinesModel", name := "leaving", desc := "(IZ)I" } : Jvm.MethodName)) ∈ zW := zW_t (List.mem_of_getElem? (i := 1428) (by decide +kernel)) rfl
theorem q1430 : (Jvm.Cond.instanceMethod ({ cls := "TraceMachinesModel", name := "leaving", desc := "(IZ)I" } : Jvm.MethodName)) ∈ zW := zW_t (List.mem_of_getElem? (i := 1430) (by decide +kernel)) rfl
theorem q1431 : (Jvm.Cond.code ({ cls := "TraceMachinesModel", name := "leaving", desc := "(IZ)I" } : Jvm.MethodName) prog_14_method_39_code (5 : Nat) (Option.some Jvm.ClassFile.FieldType.int)) ∈ zW := zW_t (List.mem_of_getElem? (i := 1431) (by decide +kernel)) rfl
theorem q1432 : (Jvm.Cond.methodLink "TraceMachinesLaw" (67 : Nat) ({ cls := "TraceMachinesModel", name := "edge", desc := "(II)I" } : Jvm.MethodName)) ∈ zW := zW_t (List.mem_of_getElem? (i := 1432) (by decide +kernel)) rfl
theorem q1433 : (Jvm.Cond.instanceMethod ({ cls := "TraceMachinesModel", name := "edge", desc := "(II)I" } : Jvm.MethodName)) ∈ zW := zW_t (List.mem_of_getElem? (i := 1433) (by decide +kernel)) rfl
theorem q1434 : (Jvm.Cond.selects "TraceMachinesModel" ({ cls := "TraceMachinesModel", name := "edge", desc := "(II)I" } : Jvm.MethodName) ({ cls := "TraceMachinesModel", name := "edge", desc := "(II)I" } : Jvm.MethodName)) ∈ zW := zW_t (List.mem_of_getElem? (i := 1434) (by decide +kernel)) rfl
theorem q1435 : (Jvm.Cond.code ({ cls := "TraceMachinesModel", name := "edge", desc := "(II)I" } : Jvm.MethodName) prog_14_method_41_code (3 : Nat) (Option.some Jvm.ClassFile.FieldType.int)) ∈ zW := zW_t (List.mem_of_getElem? (i := 1435) (by decide +kernel)) rfl
theorem q1436 : (Jvm.Cond.constantLong "TraceMachinesModel" (263 : Nat) (5 : Int64)) ∈ zW := zW_t (List.mem_of_getElem? (i := 1436) (by decide +kernel)) rfl
theorem q1437 : (Jvm.Cond.methodLink "TraceMachinesLaw" (71 : Nat) ({ cls := "TraceMachinesModel", name := "vague", desc := "(I)I" } : Jvm.MethodName)) ∈ zW := zW_t (List.mem_of_getElem? (i := 1437) (by decide +kernel)) rfl
theorem q1438 : (Jvm.Cond.instanceMethod ({ cls := "TraceMachinesModel", name := "vague", desc := "(I)I" } : Jvm.MethodName)) ∈ zW := zW_t (List.mem_of_getElem? (i := 1438) (by decide +kernel)) rfl
theorem q1439 : (Jvm.Cond.selects "TraceMachinesModel" ({ cls := "TraceMachinesModel", name := "vague", desc := "(I)I" } : Jvm.MethodName) ({ cls := "TraceMachinesModel", name := "vague", desc := "(I)I" } : Jvm.MethodName)) ∈ zW := zW_t (List.mem_of_getElem? (i := 1439) (by decide +kernel)) rfl
theorem q1440 : (Jvm.Cond.code ({ cls := "TraceMachinesModel", name := "vague", desc := "(I)I" } : Jvm.MethodName) prog_14_method_44_code (5 : Nat) (Option.some Jvm.ClassFile.FieldType.int)) ∈ zW := zW_t (List.mem_of_getElem? (i := 1440) (by decide +kernel)) rfl
theorem q1441 : (Jvm.Cond.methodLink "TraceMachinesModel" (265 : Nat) ({ cls := "TraceMachinesModel", name := "areTwo", desc := "(II)Z" } : Jvm.MethodName)) ∈ zW := zW_t (List.mem_of_getElem? (i := 1441) (by decide +kernel)) rfl
theorem q1443 : (Jvm.Cond.instanceMethod ({ cls := "TraceMachinesModel", name := "areTwo", desc := "(II)Z" } : Jvm.MethodName)) ∈ zW := zW_t (List.mem_of_getElem? (i := 1443) (by decide +kernel)) rfl
theorem q1444 : (Jvm.Cond.code ({ cls := "TraceMachinesModel", name := "areTwo", desc := "(II)Z" } : Jvm.MethodName) prog_14_method_42_code (3 : Nat) (Option.some Jvm.ClassFile.FieldType.boolean)) ∈ zW := zW_t (List.mem_of_getElem? (i := 1444) (by decide +kernel)) rfl
theorem q1445 : (Jvm.Cond.methodLink "TraceMachinesModel" (268 : Nat) ({ cls := "TraceMachinesModel", name := "haveCommon", desc := "(II)Z" } : Jvm.MethodName)) ∈ zW := zW_t (List.mem_of_getElem? (i := 1445) (by decide +kernel)) rfl
theorem q1447 : (Jvm.Cond.instanceMethod ({ cls := "TraceMachinesModel", name := "haveCommon", desc := "(II)Z" } : Jvm.MethodName)) ∈ zW := zW_t (List.mem_of_getElem? (i := 1447) (by decide +kernel)) rfl
theorem q1448 : (Jvm.Cond.code ({ cls := "TraceMachinesModel", name := "haveCommon", desc := "(II)Z" } : Jvm.MethodName) prog_14_method_43_code (4 : Nat) (Option.some Jvm.ClassFile.FieldType.boolean)) ∈ zW := zW_t (List.mem_of_getElem? (i := 1448) (by decide +kernel)) rfl
theorem q1449 : (Jvm.Cond.methodLink "TraceMachinesLaw" (76 : Nat) ({ cls := "TraceMachinesModel", name := "run", desc := "(Z)I" } : Jvm.MethodName)) ∈ zW := zW_t (List.mem_of_getElem? (i := 1449) (by decide +kernel)) rfl
theorem q1450 : (Jvm.Cond.instanceMethod ({ cls := "TraceMachinesModel", name := "run", desc := "(Z)I" } : Jvm.MethodName)) ∈ zW := zW_t (List.mem_of_getElem? (i := 1450) (by decide +kernel)) rfl
theorem q1451 : (Jvm.Cond.selects "TraceMachinesModel" ({ cls := "TraceMachinesModel", name := "run", desc := "(Z)I" } : Jvm.MethodName) ({ cls := "TraceMachinesModel", name := "run", desc := "(Z)I" } : Jvm.MethodName)) ∈ zW := zW_t (List.mem_of_getElem? (i := 1451) (by decide +kernel)) rfl
theorem q1452 : (Jvm.Cond.code ({ cls := "TraceMachinesModel", name := "run", desc := "(Z)I" } : Jvm.MethodName) prog_14_method_51_code (3 : Nat) (Option.some Jvm.ClassFile.FieldType.int)) ∈ zW := zW_t (List.mem_of_getElem? (i := 1452) (by decide +kernel)) rfl
theorem q1453 : (Jvm.Cond.methodLink "TraceMachinesModel" (293 : Nat) ({ cls := "TraceMachinesModel", name := "runs", desc := "(IZ)I" } : Jvm.MethodName)) ∈ zW := zW_t (List.mem_of_getElem? (i := 1453) (by decide +kernel)) rfl
theorem q1455 : (Jvm.Cond.instanceMethod ({ cls := "TraceMachinesModel", name := "runs", desc := "(IZ)I" } : Jvm.MethodName)) ∈ zW := zW_t (List.mem_of_getElem? (i := 1455) (by decide +kernel)) rfl
theorem q1456 : (Jvm.Cond.code ({ cls := "TraceMachinesModel", name := "runs", desc := "(IZ)I" } : Jvm.MethodName) prog_14_method_50_code (5 : Nat) (Option.some Jvm.ClassFile.FieldType.int)) ∈ zW := zW_t (List.mem_of_getElem? (i := 1456) (by decide +kernel)) rfl
theorem q1457 : (Jvm.Cond.methodLink "TraceMachinesModel" (275 : Nat) ({ cls := "TraceMachinesModel", name := "start", desc := "(I)V" } : Jvm.MethodName)) ∈ zW := zW_t (List.mem_of_getElem? (i := 1457) (by decide +kernel)) rfl
theorem q1459 : (Jvm.Cond.instanceMethod ({ cls := "TraceMachinesModel", name := "start", desc := "(I)V" } : Jvm.MethodName)) ∈ zW := zW_t (List.mem_of_getElem? (i := 1459) (by decide +kernel)) rfl
theorem q1460 : (Jvm.Cond.code ({ cls := "TraceMachinesModel", name := "start", desc := "(I)V" } : Jvm.MethodName) prog_14_method_46_code (3 : Nat) (Option.none : Option Jvm.ClassFile.FieldType)) ∈ zW := zW_t (List.mem_of_getElem? (i := 1460) (by decide +kernel)) rfl
theorem q1461 : (Jvm.Cond.methodLink "TraceMachinesModel" (278 : Nat) ({ cls := "TraceMachinesModel", name := "isEmpty", desc := "([JI)Z" } : Jvm.MethodName)) ∈ zW := zW_t (List.mem_of_getElem? (i := 1461) (by decide +kernel)) rfl
theorem q1462 : (Jvm.Cond.static ({ cls := "TraceMachinesModel", name := "isEmpty", desc := "([JI)Z" } : Jvm.MethodName)) ∈ zW := zW_t (List.mem_of_getElem? (i := 1462) (by decide +kernel)) rfl
theorem q1463 : (Jvm.Cond.code ({ cls := "TraceMachinesModel", name := "isEmpty", desc := "([JI)Z" } : Jvm.MethodName) prog_14_method_48_code (2 : Nat) (Option.some Jvm.ClassFile.FieldType.boolean)) ∈ zW := zW_t (List.mem_of_getElem? (i := 1463) (by decide +kernel)) rfl
theorem q1464 : (Jvm.Cond.methodLink "TraceMachinesModel" (282 : Nat) ({ cls := "TraceMachinesModel", name := "step", desc := "(I[JIIIZ)V" } : Jvm.MethodName)) ∈ zW := zW_t (List.mem_of_getElem? (i := 1464) (by decide +kernel)) rfl
theorem q1466 : (Jvm.Cond.instanceMethod ({ cls := "TraceMachinesModel", name := "step", desc := "(I[JIIIZ)V" } : Jvm.MethodName)) ∈ zW := zW_t (List.mem_of_getElem? (i := 1466) (by decide +kernel)) rfl
theorem q1467 : (Jvm.Cond.code ({ cls := "TraceMachinesModel", name := "step", desc := "(I[JIIIZ)V" } : Jvm.MethodName) prog_14_method_47_code (11 : Nat) (Option.none : Option Jvm.ClassFile.FieldType)) ∈ zW := zW_t (List.mem_of_getElem? (i := 1467) (by decide +kernel)) rfl
theorem q1468 : (Jvm.Cond.methodLink "TraceMachinesModel" (271 : Nat) ({ cls := "TraceMachinesModel", name := "has", desc := "([JII)Z" } : Jvm.MethodName)) ∈ zW := zW_t (List.mem_of_getElem? (i := 1468) (by decide +kernel)) rfl
theorem q1469 : (Jvm.Cond.static ({ cls := "TraceMachinesModel", name := "has", desc := "([JII)Z" } : Jvm.MethodName)) ∈ zW := zW_t (List.mem_of_getElem? (i := 1469) (by decide +kernel)) rfl
theorem q1470 : (Jvm.Cond.code ({ cls := "TraceMachinesModel", name := "has", desc := "([JII)Z" } : Jvm.MethodName) prog_14_method_45_code (3 : Nat) (Option.some Jvm.ClassFile.FieldType.boolean)) ∈ zW := zW_t (List.mem_of_getElem? (i := 1470) (by decide +kernel)) rfl
theorem q1471 : (Jvm.Cond.methodLink "TraceMachinesModel" (286 : Nat) ({ cls := "TraceMachinesModel", name := "takes", desc := "(I[JI)Z" } : Jvm.MethodName)) ∈ zW := zW_t (List.mem_of_getElem? (i := 1471) (by decide +kernel)) rfl
theorem q1473 : (Jvm.Cond.instanceMethod ({ cls := "TraceMachinesModel", name := "takes", desc := "(I[JI)Z" } : Jvm.MethodName)) ∈ zW := zW_t (List.mem_of_getElem? (i := 1473) (by decide +kernel)) rfl
theorem q1474 : (Jvm.Cond.code ({ cls := "TraceMachinesModel", name := "takes", desc := "(I[JI)Z" } : Jvm.MethodName) prog_14_method_49_code (6 : Nat) (Option.some Jvm.ClassFile.FieldType.boolean)) ∈ zW := zW_t (List.mem_of_getElem? (i := 1474) (by decide +kernel)) rfl
theorem q1475 : (Jvm.Cond.methodLink "TraceMachinesLaw" (80 : Nat) ({ cls := "TraceMachinesModel", name := "ran", desc := "(I)I" } : Jvm.MethodName)) ∈ zW := zW_t (List.mem_of_getElem? (i := 1475) (by decide +kernel)) rfl
theorem q1476 : (Jvm.Cond.instanceMethod ({ cls := "TraceMachinesModel", name := "ran", desc := "(I)I" } : Jvm.MethodName)) ∈ zW := zW_t (List.mem_of_getElem? (i := 1476) (by decide +kernel)) rfl
theorem q1477 : (Jvm.Cond.selects "TraceMachinesModel" ({ cls := "TraceMachinesModel", name := "ran", desc := "(I)I" } : Jvm.MethodName) ({ cls := "TraceMachinesModel", name := "ran", desc := "(I)I" } : Jvm.MethodName)) ∈ zW := zW_t (List.mem_of_getElem? (i := 1477) (by decide +kernel)) rfl
theorem q1478 : (Jvm.Cond.code ({ cls := "TraceMachinesModel", name := "ran", desc := "(I)I" } : Jvm.MethodName) prog_14_method_52_code (2 : Nat) (Option.some Jvm.ClassFile.FieldType.int)) ∈ zW := zW_t (List.mem_of_getElem? (i := 1478) (by decide +kernel)) rfl
theorem q1479 : (Jvm.Cond.methodLink "TraceMachinesLaw" (84 : Nat) ({ cls := "TraceMachinesModel", name := "cover", desc := "(I)I" } : Jvm.MethodName)) ∈ zW := zW_t (List.mem_of_getElem? (i := 1479) (by decide +kernel)) rfl
theorem q1480 : (Jvm.Cond.instanceMethod ({ cls := "TraceMachinesModel", name := "cover", desc := "(I)I" } : Jvm.MethodName)) ∈ zW := zW_t (List.mem_of_getElem? (i := 1480) (by decide +kernel)) rfl
theorem q1481 : (Jvm.Cond.selects "TraceMachinesModel" ({ cls := "TraceMachinesModel", name := "cover", desc := "(I)I" } : Jvm.MethodName) ({ cls := "TraceMachinesModel", name := "cover", desc := "(I)I" } : Jvm.MethodName)) ∈ zW := zW_t (List.mem_of_getElem? (i := 1481) (by decide +kernel)) rfl
theorem q1482 : (Jvm.Cond.code ({ cls := "TraceMachinesModel", name := "cover", desc := "(I)I" } : Jvm.MethodName) prog_14_method_57_code (6 : Nat) (Option.some Jvm.ClassFile.FieldType.int)) ∈ zW := zW_t (List.mem_of_getElem? (i := 1482) (by decide +kernel)) rfl
theorem q1483 : (Jvm.Cond.methodLink "TraceMachinesModel" (305 : Nat) ({ cls := "TraceMachinesModel", name := "layGoes", desc := "()V" } : Jvm.MethodName)) ∈ zW := zW_t (List.mem_of_getElem? (i := 1483) (by decide +kernel)) rfl
theorem q1485 : (Jvm.Cond.instanceMethod ({ cls := "TraceMachinesModel", name := "layGoes", desc := "()V" } : Jvm.MethodName)) ∈ zW := zW_t (List.mem_of_getElem? (i := 1485) (by decide +kernel)) rfl
theorem q1486 : (Jvm.Cond.code ({ cls := "TraceMachinesModel", name := "layGoes", desc := "()V" } : Jvm.MethodName) prog_14_method_55_code (5 : Nat) (Option.none : Option Jvm.ClassFile.FieldType)) ∈ zW := zW_t (List.mem_of_getElem? (i := 1486) (by decide +kernel)) rfl
theorem q1487 : (Jvm.Cond.methodLink "TraceMachinesModel" (308 : Nat) ({ cls := "TraceMachinesModel", name := "ones", desc := "(I)I" } : Jvm.MethodName)) ∈ zW := zW_t (List.mem_of_getElem? (i := 1487) (by decide +kernel)) rfl
theorem q1488 : (Jvm.Cond.static ({ cls := "TraceMachinesModel", name := "ones", desc := "(I)I" } : Jvm.MethodName)) ∈ zW := zW_t (List.mem_of_getElem? (i := 1488) (by decide +kernel)) rfl
theorem q1489 : (Jvm.Cond.code ({ cls := "TraceMachinesModel", name := "ones", desc := "(I)I" } : Jvm.MethodName) prog_14_method_54_code (3 : Nat) (Option.some Jvm.ClassFile.FieldType.int)) ∈ zW := zW_t (List.mem_of_getElem? (i := 1489) (by decide +kernel)) rfl
theorem q1490 : (Jvm.Cond.methodLink "TraceMachinesModel" (311 : Nat) ({ cls := "TraceMachinesModel", name := "coversAll", desc := "(I)Z" } : Jvm.MethodName)) ∈ zW := zW_t (List.mem_of_getElem? (i := 1490) (by decide +kernel)) rfl
theorem q1492 : (Jvm.Cond.instanceMethod ({ cls := "TraceMachinesModel", name := "coversAll", desc := "(I)Z" } : Jvm.MethodName)) ∈ zW := zW_t (List.mem_of_getElem? (i := 1492) (by decide +kernel)) rfl
theorem q1493 : (Jvm.Cond.code ({ cls := "TraceMachinesModel", name := "coversAll", desc := "(I)Z" } : Jvm.MethodName) prog_14_method_56_code (6 : Nat) (Option.some Jvm.ClassFile.FieldType.boolean)) ∈ zW := zW_t (List.mem_of_getElem? (i := 1493) (by decide +kernel)) rfl
theorem q1494 : (Jvm.Cond.methodLink "TraceMachinesLaw" (88 : Nat) ({ cls := "TraceMachinesModel", name := "ways", desc := "(I)I" } : Jvm.MethodName)) ∈ zW := zW_t (List.mem_of_getElem? (i := 1494) (by decide +kernel)) rfl
theorem q1495 : (Jvm.Cond.instanceMethod ({ cls := "TraceMachinesModel", name := "ways", desc := "(I)I" } : Jvm.MethodName)) ∈ zW := zW_t (List.mem_of_getElem? (i := 1495) (by decide +kernel)) rfl
theorem q1496 : (Jvm.Cond.selects "TraceMachinesModel" ({ cls := "TraceMachinesModel", name := "ways", desc := "(I)I" } : Jvm.MethodName) ({ cls := "TraceMachinesModel", name := "ways", desc := "(I)I" } : Jvm.MethodName)) ∈ zW := zW_t (List.mem_of_getElem? (i := 1496) (by decide +kernel)) rfl
theorem q1497 : (Jvm.Cond.code ({ cls := "TraceMachinesModel", name := "ways", desc := "(I)I" } : Jvm.MethodName) prog_14_method_59_code (5 : Nat) (Option.some Jvm.ClassFile.FieldType.int)) ∈ zW := zW_t (List.mem_of_getElem? (i := 1497) (by decide +kernel)) rfl
theorem q1498 : (Jvm.Cond.methodLink "TraceMachinesModel" (316 : Nat) ({ cls := "TraceMachinesModel", name := "stepWays", desc := "(I)V" } : Jvm.MethodName)) ∈ zW := zW_t (List.mem_of_getElem? (i := 1498) (by decide +kernel)) rfl
theorem q1500 : (Jvm.Cond.instanceMethod ({ cls := "TraceMachinesModel", name := "stepWays", desc := "(I)V" } : Jvm.MethodName)) ∈ zW := zW_t (List.mem_of_getElem? (i := 1500) (by decide +kernel)) rfl
theorem q1501 : (Jvm.Cond.code ({ cls := "TraceMachinesModel", name := "stepWays", desc := "(I)V" } : Jvm.MethodName) prog_14_method_58_code (6 : Nat) (Option.none : Option Jvm.ClassFile.FieldType)) ∈ zW := zW_t (List.mem_of_getElem? (i := 1501) (by decide +kernel)) rfl
theorem q1502 : (Jvm.Cond.constantLong "TraceMachinesModel" (314 : Nat) (1000000 : Int64)) ∈ zW := zW_t (List.mem_of_getElem? (i := 1502) (by decide +kernel)) rfl
theorem q1503 : (Jvm.Cond.constant "TraceMachinesModel" (319 : Nat) (1000000 : Int32)) ∈ zW := zW_t (List.mem_of_getElem? (i := 1503) (by decide +kernel)) rfl
theorem q1504 : (Jvm.Cond.methodLink "TraceMachinesLaw" (92 : Nat) ({ cls := "TraceMachinesModel", name := "words", desc := "(I)I" } : Jvm.MethodName)) ∈ zW := zW_t (List.mem_of_getElem? (i := 1504) (by decide +kernel)) rfl
theorem q1505 : (Jvm.Cond.instanceMethod ({ cls := "TraceMachinesModel", name := "words", desc := "(I)I" } : Jvm.MethodName)) ∈ zW := zW_t (List.mem_of_getElem? (i := 1505) (by decide +kernel)) rfl
theorem q1506 : (Jvm.Cond.selects "TraceMachinesModel" ({ cls := "TraceMachinesModel", name := "words", desc := "(I)I" } : Jvm.MethodName) ({ cls := "TraceMachinesModel", name := "words", desc := "(I)I" } : Jvm.MethodName)) ∈ zW := zW_t (List.mem_of_getElem? (i := 1506) (by decide +kernel)) rfl
theorem q1507 : (Jvm.Cond.code ({ cls := "TraceMachinesModel", name := "words", desc := "(I)I" } : Jvm.MethodName) prog_14_method_63_code (4 : Nat) (Option.some Jvm.ClassFile.FieldType.int)) ∈ zW := zW_t (List.mem_of_getElem? (i := 1507) (by decide +kernel)) rfl
theorem q1508 : (Jvm.Cond.constantLong "TraceMachinesModel" (333 : Nat) (8 : Int64)) ∈ zW := zW_t (List.mem_of_getElem? (i := 1508) (by decide +kernel)) rfl
theorem q1509 : (Jvm.Cond.methodLink "TraceMachinesModel" (335 : Nat) ({ cls := "TraceMachinesModel", name := "nextLevel", desc := "()V" } : Jvm.MethodName)) ∈ zW := zW_t (List.mem_of_getElem? (i := 1509) (by decide +kernel)) rfl
theorem q1511 : (Jvm.Cond.instanceMethod ({ cls := "TraceMachinesModel", name := "nextLevel", desc := "()V" } : Jvm.MethodName)) ∈ zW := zW_t (List.mem_of_getElem? (i := 1511) (by decide +kernel)) rfl
theorem q1512 : (Jvm.Cond.code ({ cls := "TraceMachinesModel", name := "nextLevel", desc := "()V" } : Jvm.MethodName) prog_14_method_62_code (3 : Nat) (Option.none : Option Jvm.ClassFile.FieldType)) ∈ zW := zW_t (List.mem_of_getElem? (i := 1512) (by decide +kernel)) rfl
theorem q1513 : (Jvm.Cond.methodLink "TraceMachinesModel" (330 : Nat) ({ cls := "TraceMachinesModel", name := "addNext", desc := "(I)V" } : Jvm.MethodName)) ∈ zW := zW_t (List.mem_of_getElem? (i := 1513) (by decide +kernel)) rfl
theorem q1515 : (Jvm.Cond.instanceMethod ({ cls := "TraceMachinesModel", name := "addNext", desc := "(I)V" } : Jvm.MethodName)) ∈ zW := zW_t (List.mem_of_getElem? (i := 1515) (by decide +kernel)) rfl
theorem q1516 : (Jvm.Cond.code ({ cls := "TraceMachinesModel", name := "addNext", desc := "(I)V" } : Jvm.MethodName) prog_14_method_61_code (4 : Nat) (Option.none : Option Jvm.ClassFile.FieldType)) ∈ zW := zW_t (List.mem_of_getElem? (i := 1516) (by decide +kernel)) rfl
theorem q1517 : (Jvm.Cond.methodLink "TraceMachinesModel" (323 : Nat) ({ cls := "TraceMachinesModel", name := "areSame", desc := "([JI[JI)Z" } : Jvm.MethodName)) ∈ zW := zW_t (List.mem_of_getElem? (i := 1517) (by decide +kernel)) rfl
theorem q1518 : (Jvm.Cond.static ({ cls := "TraceMachinesModel", name := "areSame", desc := "([JI[JI)Z" } : Jvm.MethodName)) ∈ zW := zW_t (List.mem_of_getElem? (i := 1518) (by decide +kernel)) rfl
theorem q1519 : (Jvm.Cond.code ({ cls := "TraceMachinesModel", name := "areSame", desc := "([JI[JI)Z" } : Jvm.MethodName) prog_14_method_60_code (4 : Nat) (Option.some Jvm.ClassFile.FieldType.boolean)) ∈ zW := zW_t (List.mem_of_getElem? (i := 1519) (by decide +kernel)) rfl
theorem q1520 : (Jvm.Cond.methodLink "TraceMachinesLaw" (96 : Nat) ({ cls := "TraceMachinesModel", name := "apart", desc := "(III)I" } : Jvm.MethodName)) ∈ zW := zW_t (List.mem_of_getElem? (i := 1520) (by decide +kernel)) rfl
theorem q1521 : (Jvm.Cond.instanceMethod ({ cls := "TraceMachinesModel", name := "apart", desc := "(III)I" } : Jvm.MethodName)) ∈ zW := zW_t (List.mem_of_getElem? (i := 1521) (by decide +kernel)) rfl
theorem q1522 : (Jvm.Cond.selects "TraceMachinesModel" ({ cls := "TraceMachinesModel", name := "apart", desc := "(III)I" } : Jvm.MethodName) ({ cls := "TraceMachinesModel", name := "apart", desc := "(III)I" } : Jvm.MethodName)) ∈ zW := zW_t (List.mem_of_getElem? (i := 1522) (by decide +kernel)) rfl
theorem q1523 : (Jvm.Cond.code ({ cls := "TraceMachinesModel", name := "apart", desc := "(III)I" } : Jvm.MethodName) prog_14_method_68_code (5 : Nat) (Option.some Jvm.ClassFile.FieldType.int)) ∈ zW := zW_t (List.mem_of_getElem? (i := 1523) (by decide +kernel)) rfl
theorem q1524 : (Jvm.Cond.constantLong "TraceMachinesModel" (350 : Nat) (3 : Int64)) ∈ zW := zW_t (List.mem_of_getElem? (i := 1524) (by decide +kernel)) rfl
theorem q1525 : (Jvm.Cond.methodLink "TraceMachinesModel" (352 : Nat) ({ cls := "TraceMachinesModel", name := "partsAt", desc := "()I" } : Jvm.MethodName)) ∈ zW := zW_t (List.mem_of_getElem? (i := 1525) (by decide +kernel)) rfl
theorem q1527 : (Jvm.Cond.instanceMethod ({ cls := "TraceMachinesModel", name := "partsAt", desc := "()I" } : Jvm.MethodName)) ∈ zW := zW_t (List.mem_of_getElem? (i := 1527) (by decide +kernel)) rfl
theorem q1528 : (Jvm.Cond.code ({ cls := "TraceMachinesModel", name := "partsAt", desc := "()I" } : Jvm.MethodName) prog_14_method_67_code (3 : Nat) (Option.some Jvm.ClassFile.FieldType.int)) ∈ zW := zW_t (List.mem_of_getElem? (i := 1528) (by decide +kernel)) rfl
theorem q1529 : (Jvm.Cond.methodLink "TraceMachinesModel" (341 : Nat) ({ cls := "TraceMachinesModel", name := "addTwo", desc := "(II)V" } : Jvm.MethodName)) ∈ zW := zW_t (List.mem_of_getElem? (i := 1529) (by decide +kernel)) rfl
theorem q1531 : (Jvm.Cond.instanceMethod ({ cls := "TraceMachinesModel", name := "addTwo", desc := "(II)V" } : Jvm.MethodName)) ∈ zW := zW_t (List.mem_of_getElem? (i := 1531) (by decide +kernel)) rfl
theorem q1532 : (Jvm.Cond.code ({ cls := "TraceMachinesModel", name := "addTwo", desc := "(II)V" } : Jvm.MethodName) prog_14_method_65_code (4 : Nat) (Option.none : Option Jvm.ClassFile.FieldType)) ∈ zW := zW_t (List.mem_of_getElem? (i := 1532) (by decide +kernel)) rfl
theorem q1533 : (Jvm.Cond.methodLink "TraceMachinesModel" (344 : Nat) ({ cls := "TraceMachinesModel", name := "stepTwo", desc := "(II)V" } : Jvm.MethodName)) ∈ zW := zW_t (List.mem_of_getElem? (i := 1533) (by decide +kernel)) rfl
theorem q1535 : (Jvm.Cond.instanceMethod ({ cls := "TraceMachinesModel", name := "stepTwo", desc := "(II)V" } : Jvm.MethodName)) ∈ zW := zW_t (List.mem_of_getElem? (i := 1535) (by decide +kernel)) rfl
theorem q1536 : (Jvm.Cond.code ({ cls := "TraceMachinesModel", name := "stepTwo", desc := "(II)V" } : Jvm.MethodName) prog_14_method_66_code (5 : Nat) (Option.none : Option Jvm.ClassFile.FieldType)) ∈ zW := zW_t (List.mem_of_getElem? (i := 1536) (by decide +kernel)) rfl
theorem q1537 : (Jvm.Cond.methodLink "TraceMachinesModel" (347 : Nat) ({ cls := "TraceMachinesModel", name := "isKnown", desc := "()Z" } : Jvm.MethodName)) ∈ zW := zW_t (List.mem_of_getElem? (i := 1537) (by decide +kernel)) rfl
theorem q1539 : (Jvm.Cond.instanceMethod ({ cls := "TraceMachinesModel", name := "isKnown", desc := "()Z" } : Jvm.MethodName)) ∈ zW := zW_t (List.mem_of_getElem? (i := 1539) (by decide +kernel)) rfl
theorem q1540 : (Jvm.Cond.code ({ cls := "TraceMachinesModel", name := "isKnown", desc := "()Z" } : Jvm.MethodName) prog_14_method_64_code (3 : Nat) (Option.some Jvm.ClassFile.FieldType.boolean)) ∈ zW := zW_t (List.mem_of_getElem? (i := 1540) (by decide +kernel)) rfl
theorem q1541 : (Jvm.Cond.methodLink "TraceMachinesLaw" (100 : Nat) ({ cls := "TraceMachinesModel", name := "walk", desc := "(II)I" } : Jvm.MethodName)) ∈ zW := zW_t (List.mem_of_getElem? (i := 1541) (by decide +kernel)) rfl
theorem q1542 : (Jvm.Cond.instanceMethod ({ cls := "TraceMachinesModel", name := "walk", desc := "(II)I" } : Jvm.MethodName)) ∈ zW := zW_t (List.mem_of_getElem? (i := 1542) (by decide +kernel)) rfl
theorem q1543 : (Jvm.Cond.selects "TraceMachinesModel" ({ cls := "TraceMachinesModel", name := "walk", desc := "(II)I" } : Jvm.MethodName) ({ cls := "TraceMachinesModel", name := "walk", desc := "(II)I" } : Jvm.MethodName)) ∈ zW := zW_t (List.mem_of_getElem? (i := 1543) (by decide +kernel)) rfl
theorem q1544 : (Jvm.Cond.code ({ cls := "TraceMachinesModel", name := "walk", desc := "(II)I" } : Jvm.MethodName) prog_14_method_69_code (11 : Nat) (Option.some Jvm.ClassFile.FieldType.int)) ∈ zW := zW_t (List.mem_of_getElem? (i := 1544) (by decide +kernel)) rfl
theorem q1545 : (Jvm.Cond.constantLong "TraceMachinesModel" (355 : Nat) (999999 : Int64)) ∈ zW := zW_t (List.mem_of_getElem? (i := 1545) (by decide +kernel)) rfl
theorem q1546 : (Jvm.Cond.constantLong "TraceMachinesModel" (357 : Nat) (1103 : Int64)) ∈ zW := zW_t (List.mem_of_getElem? (i := 1546) (by decide +kernel)) rfl
theorem q1547 : (Jvm.Cond.constantLong "TraceMachinesModel" (359 : Nat) (12345 : Int64)) ∈ zW := zW_t (List.mem_of_getElem? (i := 1547) (by decide +kernel)) rfl
theorem q1548 : (Jvm.Cond.constantLong "TraceMachinesModel" (361 : Nat) (1000003 : Int64)) ∈ zW := zW_t (List.mem_of_getElem? (i := 1548) (by decide +kernel)) rfl
theorem q1549 : (Jvm.Cond.methodLink "TraceMachinesLaw" (105 : Nat) ({ cls := "TraceMachinesModel", name := "rule", desc := "(IIII)I" } : Jvm.MethodName)) ∈ zW := zW_t (List.mem_of_getElem? (i := 1549) (by decide +kernel)) rfl
theorem q1550 : (Jvm.Cond.instanceMethod ({ cls := "TraceMachinesModel", name := "rule", desc := "(IIII)I" } : Jvm.MethodName)) ∈ zW := zW_t (List.mem_of_getElem? (i := 1550) (by decide +kernel)) rfl
theorem q1551 : (Jvm.Cond.selects "TraceMachinesModel" ({ cls := "TraceMachinesModel", name := "rule", desc := "(IIII)I" } : Jvm.MethodName) ({ cls := "TraceMachinesModel", name := "rule", desc := "(IIII)I" } : Jvm.MethodName)) ∈ zW := zW_t (List.mem_of_getElem? (i := 1551) (by decide +kernel)) rfl
theorem q1552 : (Jvm.Cond.code ({ cls := "TraceMachinesModel", name := "rule", desc := "(IIII)I" } : Jvm.MethodName) prog_14_method_80_code (5 : Nat) (Option.some Jvm.ClassFile.FieldType.int)) ∈ zW := zW_t (List.mem_of_getElem? (i := 1552) (by decide +kernel)) rfl
theorem q1553 : (Jvm.Cond.methodLink "TraceMachinesModel" (391 : Nat) ({ cls := "TraceMachinesModel", name := "isLetter", desc := "(I)Z" } : Jvm.MethodName)) ∈ zW := zW_t (List.mem_of_getElem? (i := 1553) (by decide +kernel)) rfl
theorem q1554 : (Jvm.Cond.static ({ cls := "TraceMachinesModel", name := "isLetter", desc := "(I)Z" } : Jvm.MethodName)) ∈ zW := zW_t (List.mem_of_getElem? (i := 1554) (by decide +kernel)) rfl
theorem q1555 : (Jvm.Cond.code ({ cls := "TraceMachinesModel", name := "isLetter", desc := "(I)Z" } : Jvm.MethodName) prog_14_method_79_code (1 : Nat) (Option.some Jvm.ClassFile.FieldType.boolean)) ∈ zW := zW_t (List.mem_of_getElem? (i := 1555) (by decide +kernel)) rfl
theorem q1556 : (Jvm.Cond.constantLong "TraceMachinesModel" (389 : Nat) (9 : Int64)) ∈ zW := zW_t (List.mem_of_getElem? (i := 1556) (by decide +kernel)) rfl
theorem q1557 : (Jvm.Cond.methodLink "TraceMachinesModel" (394 : Nat) ({ cls := "TraceMachinesModel", name := "asked", desc := "(IIIZ)I" } : Jvm.MethodName)) ∈ zW := zW_t (List.mem_of_getElem? (i := 1557) (by decide +kernel)) rfl
theorem q1559 : (Jvm.Cond.instanceMethod ({ cls := "TraceMachinesModel", name := "asked", desc := "(IIIZ)I" } : Jvm.MethodName)) ∈ zW := zW_t (List.mem_of_getElem? (i := 1559) (by decide +kernel)) rfl
theorem q1560 : (Jvm.Cond.code ({ cls := "TraceMachinesModel", name := "asked", desc := "(IIIZ)I" } : Jvm.MethodName) prog_14_method_78_code (7 : Nat) (Option.some Jvm.ClassFile.FieldType.int)) ∈ zW := zW_t (List.mem_of_getElem? (i := 1560) (by decide +kernel)) rfl
theorem q1561 : (Jvm.Cond.methodLink "TraceMachinesModel" (382 : Nat) ({ cls := "TraceMachinesModel", name := "isAsked", desc := "(IIII)Z" } : Jvm.MethodName)) ∈ zW := zW_t (List.mem_of_getElem? (i := 1561) (by decide +kernel)) rfl
theorem q1563 : (Jvm.Cond.instanceMethod ({ cls := "TraceMachinesModel", name := "isAsked", desc := "(IIII)Z" } : Jvm.MethodName)) ∈ zW := zW_t (List.mem_of_getElem? (i := 1563) (by decide +kernel)) rfl
theorem q1564 : (Jvm.Cond.code ({ cls := "TraceMachinesModel", name := "isAsked", desc := "(IIII)Z" } : Jvm.MethodName) prog_14_method_71_code (5 : Nat) (Option.some Jvm.ClassFile.FieldType.boolean)) ∈ zW := zW_t (List.mem_of_getElem? (i := 1564) (by decide +kernel)) rfl
theorem q1565 : (Jvm.Cond.methodLink "TraceMachinesModel" (363 : Nat) ({ cls := "TraceMachinesModel", name := "hasLetter", desc := "(II)Z" } : Jvm.MethodName)) ∈ zW := zW_t (List.mem_of_getElem? (i := 1565) (by decide +kernel)) rfl
theorem q1567 : (Jvm.Cond.instanceMethod ({ cls := "TraceMachinesModel", name := "hasLetter", desc := "(II)Z" } : Jvm.MethodName)) ∈ zW := zW_t (List.mem_of_getElem? (i := 1567) (by decide +kernel)) rfl
theorem q1568 : (Jvm.Cond.code ({ cls := "TraceMachinesModel", name := "hasLetter", desc := "(II)Z" } : Jvm.MethodName) prog_14_method_70_code (5 : Nat) (Option.some Jvm.ClassFile.FieldType.boolean)) ∈ zW := zW_t (List.mem_of_getElem? (i := 1568) (by decide +kernel)) rfl
theorem q1569 : (Jvm.Cond.methodLink "TraceMachinesModel" (386 : Nat) ({ cls := "TraceMachinesModel", name := "isSo", desc := "(IIII)Z" } : Jvm.MethodName)) ∈ zW := zW_t (List.mem_of_getElem? (i := 1569) (by decide +kernel)) rfl
theorem q1571 : (Jvm.Cond.instanceMethod ({ cls := "TraceMachinesModel", name := "isSo", desc := "(IIII)Z" } : Jvm.MethodName)) ∈ zW := zW_t (List.mem_of_getElem? (i := 1571) (by decide +kernel)) rfl
theorem q1572 : (Jvm.Cond.code ({ cls := "TraceMachinesModel", name := "isSo", desc := "(IIII)Z" } : Jvm.MethodName) prog_14_method_77_code (5 : Nat) (Option.some Jvm.ClassFile.FieldType.boolean)) ∈ zW := zW_t (List.mem_of_getElem? (i := 1572) (by decide +kernel)) rfl
theorem q1573 : (Jvm.Cond.methodLink "TraceMachinesModel" (366 : Nat) ({ cls := "TraceMachinesModel", name := "lastOf", desc := "(II)I" } : Jvm.MethodName)) ∈ zW := zW_t (List.mem_of_getElem? (i := 1573) (by decide +kernel)) rfl
theorem q1575 : (Jvm.Cond.instanceMethod ({ cls := "TraceMachinesModel", name := "lastOf", desc := "(II)I" } : Jvm.MethodName)) ∈ zW := zW_t (List.mem_of_getElem? (i := 1575) (by decide +kernel)) rfl
theorem q1576 : (Jvm.Cond.code ({ cls := "TraceMachinesModel", name := "lastOf", desc := "(II)I" } : Jvm.MethodName) prog_14_method_73_code (4 : Nat) (Option.some Jvm.ClassFile.FieldType.int)) ∈ zW := zW_t (List.mem_of_getElem? (i := 1576) (by decide +kernel)) rfl
theorem q1577 : (Jvm.Cond.methodLink "TraceMachinesModel" (369 : Nat) ({ cls := "TraceMachinesModel", name := "firstOf", desc := "(II)I" } : Jvm.MethodName)) ∈ zW := zW_t (List.mem_of_getElem? (i := 1577) (by decide +kernel)) rfl
theorem q1579 : (Jvm.Cond.instanceMethod ({ cls := "TraceMachinesModel", name := "firstOf", desc := "(II)I" } : Jvm.MethodName)) ∈ zW := zW_t (List.mem_of_getElem? (i := 1579) (by decide +kernel)) rfl
theorem q1580 : (Jvm.Cond.code ({ cls := "TraceMachinesModel", name := "firstOf", desc := "(II)I" } : Jvm.MethodName) prog_14_method_72_code (4 : Nat) (Option.some Jvm.ClassFile.FieldType.int)) ∈ zW := zW_t (List.mem_of_getElem? (i := 1580) (by decide +kernel)) rfl
theorem q1581 : (Jvm.Cond.methodLink "TraceMachinesModel" (372 : Nat) ({ cls := "TraceMachinesModel", name := "rightBehind", desc := "(III)Z" } : Jvm.MethodName)) ∈ zW := zW_t (List.mem_of_getElem? (i := 1581) (by decide +kernel)) rfl
theorem q1583 : (Jvm.Cond.instanceMethod ({ cls := "TraceMachinesModel", name := "rightBehind", desc := "(III)Z" } : Jvm.MethodName)) ∈ zW := zW_t (List.mem_of_getElem? (i := 1583) (by decide +kernel)) rfl
theorem q1584 : (Jvm.Cond.code ({ cls := "TraceMachinesModel", name := "rightBehind", desc := "(III)Z" } : Jvm.MethodName) prog_14_method_75_code (6 : Nat) (Option.some Jvm.ClassFile.FieldType.boolean)) ∈ zW := zW_t (List.mem_of_getElem? (i := 1584) (by decide +kernel)) rfl
theorem q1585 : (Jvm.Cond.methodLink "TraceMachinesModel" (376 : Nat) ({ cls := "TraceMachinesModel", name := "howOften", desc := "(II)I" } : Jvm.MethodName)) ∈ zW := zW_t (List.mem_of_getElem? (i := 1585) (by decide +kernel)) rfl
theorem q1587 : (Jvm.Cond.instanceMethod ({ cls := "TraceMachinesModel", name := "howOften", desc := "(II)I" } : Jvm.MethodName)) ∈ zW := zW_t (List.mem_of_getElem? (i := 1587) (by decide +kernel)) rfl
theorem q1588 : (Jvm.Cond.code ({ cls := "TraceMachinesModel", name := "howOften", desc := "(II)I" } : Jvm.MethodName) prog_14_method_74_code (5 : Nat) (Option.some Jvm.ClassFile.FieldType.int)) ∈ zW := zW_t (List.mem_of_getElem? (i := 1588) (by decide +kernel)) rfl
theorem q1589 : (Jvm.Cond.methodLink "TraceMachinesModel" (379 : Nat) ({ cls := "TraceMachinesModel", name := "inTurn", desc := "(III)Z" } : Jvm.MethodName)) ∈ zW := zW_t (List.mem_of_getElem? (i := 1589) (by decide +kernel)) rfl
theorem q1591 : (Jvm.Cond.instanceMethod ({ cls := "TraceMachinesModel", name := "inTurn", desc := "(III)Z" } : Jvm.MethodName)) ∈ zW := zW_t (List.mem_of_getElem? (i := 1591) (by decide +kernel)) rfl
theorem q1592 : (Jvm.Cond.code ({ cls := "TraceMachinesModel", name := "inTurn", desc := "(III)Z" } : Jvm.MethodName) prog_14_method_76_code (8 : Nat) (Option.some Jvm.ClassFile.FieldType.boolean)) ∈ zW := zW_t (List.mem_of_getElem? (i := 1592) (by decide +kernel)) rfl
theorem q1593 : (Jvm.Cond.methodLink "TraceMachinesLaw" (109 : Nat) ({ cls := "TraceMachinesModel", name := "rules", desc := "(III)I" } : Jvm.MethodName)) ∈ zW := zW_t (List.mem_of_getElem? (i := 1593) (by decide +kernel)) rfl
theorem q1594 : (Jvm.Cond.instanceMethod ({ cls := "TraceMachinesModel", name := "rules", desc := "(III)I" } : Jvm.MethodName)) ∈ zW := zW_t (List.mem_of_getElem? (i := 1594) (by decide +kernel)) rfl
theorem q1595 : (Jvm.Cond.selects "TraceMachinesModel" ({ cls := "TraceMachinesModel", name := "rules", desc := "(III)I" } : Jvm.MethodName) ({ cls := "TraceMachinesModel", name := "rules", desc := "(III)I" } : Jvm.MethodName)) ∈ zW := zW_t (List.mem_of_getElem? (i := 1595) (by decide +kernel)) rfl
theorem q1596 : (Jvm.Cond.code ({ cls := "TraceMachinesModel", name := "rules", desc := "(III)I" } : Jvm.MethodName) prog_14_method_81_code (9 : Nat) (Option.some Jvm.ClassFile.FieldType.int)) ∈ zW := zW_t (List.mem_of_getElem? (i := 1596) (by decide +kernel)) rfl
theorem q1597 : (Jvm.Cond.constantLong "TraceMachinesModel" (398 : Nat) (20 : Int64)) ∈ zW := zW_t (List.mem_of_getElem? (i := 1597) (by decide +kernel)) rfl
theorem q1598 : (Jvm.Cond.methodLink "TraceMachinesLaw" (113 : Nat) ({ cls := "TraceMachinesModel", name := "odd", desc := "(II)I" } : Jvm.MethodName)) ∈ zW := zW_t (List.mem_of_getElem? (i := 1598) (by decide +kernel)) rfl
theorem q1599 : (Jvm.Cond.instanceMethod ({ cls := "TraceMachinesModel", name := "odd", desc := "(II)I" } : Jvm.MethodName)) ∈ zW := zW_t (List.mem_of_getElem? (i := 1599) (by decide +kernel)) rfl
theorem q1600 : (Jvm.Cond.selects "TraceMachinesModel" ({ cls := "TraceMachinesModel", name := "odd", desc := "(II)I" } : Jvm.MethodName) ({ cls := "TraceMachinesModel", name := "odd", desc := "(II)I" } : Jvm.MethodName)) ∈ zW := zW_t (List.mem_of_getElem? (i := 1600) (by decide +kernel)) rfl
theorem q1601 : (Jvm.Cond.code ({ cls := "TraceMachinesModel", name := "odd", desc := "(II)I" } : Jvm.MethodName) prog_14_method_85_code (3 : Nat) (Option.some Jvm.ClassFile.FieldType.int)) ∈ zW := zW_t (List.mem_of_getElem? (i := 1601) (by decide +kernel)) rfl
theorem q1602 : (Jvm.Cond.constantLong "TraceMachinesModel" (403 : Nat) (2 : Int64)) ∈ zW := zW_t (List.mem_of_getElem? (i := 1602) (by decide +kernel)) rfl
theorem q1603 : (Jvm.Cond.methodLink "TraceMachinesModel" (405 : Nat) ({ cls := "TraceMachinesModel", name := "layWeak", desc := "()V" } : Jvm.MethodName)) ∈ zW := zW_t (List.mem_of_getElem? (i := 1603) (by decide +kernel)) rfl
theorem q1605 : (Jvm.Cond.instanceMethod ({ cls := "TraceMachinesModel", name := "layWeak", desc := "()V" } : Jvm.MethodName)) ∈ zW := zW_t (List.mem_of_getElem? (i := 1605) (by decide +kernel)) rfl
theorem q1606 : (Jvm.Cond.code ({ cls := "TraceMachinesModel", name := "layWeak", desc := "()V" } : Jvm.MethodName) prog_14_method_82_code (4 : Nat) (Option.none : Option Jvm.ClassFile.FieldType)) ∈ zW := zW_t (List.mem_of_getElem? (i := 1606) (by decide +kernel)) rfl
theorem q1607 : (Jvm.Cond.methodLink "TraceMachinesModel" (408 : Nat) ({ cls := "TraceMachinesModel", name := "placeAmong", desc := "(I)I" } : Jvm.MethodName)) ∈ zW := zW_t (List.mem_of_getElem? (i := 1607) (by decide +kernel)) rfl
theorem q1609 : (Jvm.Cond.instanceMethod ({ cls := "TraceMachinesModel", name := "placeAmong", desc := "(I)I" } : Jvm.MethodName)) ∈ zW := zW_t (List.mem_of_getElem? (i := 1609) (by decide +kernel)) rfl
theorem q1610 : (Jvm.Cond.code ({ cls := "TraceMachinesModel", name := "placeAmong", desc := "(I)I" } : Jvm.MethodName) prog_14_method_84_code (4 : Nat) (Option.some Jvm.ClassFile.FieldType.int)) ∈ zW := zW_t (List.mem_of_getElem? (i := 1610) (by decide +kernel)) rfl
theorem q1611 : (Jvm.Cond.methodLink "TraceMachinesModel" (400 : Nat) ({ cls := "TraceMachinesModel", name := "isAhead", desc := "(II)Z" } : Jvm.MethodName)) ∈ zW := zW_t (List.mem_of_getElem? (i := 1611) (by decide +kernel)) rfl
theorem q1613 : (Jvm.Cond.instanceMethod ({ cls := "TraceMachinesModel", name := "isAhead", desc := "(II)Z" } : Jvm.MethodName)) ∈ zW := zW_t (List.mem_of_getElem? (i := 1613) (by decide +kernel)) rfl
theorem q1614 : (Jvm.Cond.code ({ cls := "TraceMachinesModel", name := "isAhead", desc := "(II)Z" } : Jvm.MethodName) prog_14_method_83_code (3 : Nat) (Option.some Jvm.ClassFile.FieldType.boolean)) ∈ zW := zW_t (List.mem_of_getElem? (i := 1614) (by decide +kernel)) rfl
theorem q1615 : (Jvm.Cond.methodLink "TraceMachinesLaw" (117 : Nat) ({ cls := "TraceMachinesModel", name := "oddest", desc := "(I)I" } : Jvm.MethodName)) ∈ zW := zW_t (List.mem_of_getElem? (i := 1615) (by decide +kernel)) rfl
theorem q1616 : (Jvm.Cond.instanceMethod ({ cls := "TraceMachinesModel", name := "oddest", desc := "(I)I" } : Jvm.MethodName)) ∈ zW := zW_t (List.mem_of_getElem? (i := 1616) (by decide +kernel)) rfl
theorem q1617 : (Jvm.Cond.selects "TraceMachinesModel" ({ cls := "TraceMachinesModel", name := "oddest", desc := "(I)I" } : Jvm.MethodName) ({ cls := "TraceMachinesModel", name := "oddest", desc := "(I)I" } : Jvm.MethodName)) ∈ zW := zW_t (List.mem_of_getElem? (i := 1617) (by decide +kernel)) rfl
theorem q1618 : (Jvm.Cond.code ({ cls := "TraceMachinesModel", name := "oddest", desc := "(I)I" } : Jvm.MethodName) prog_14_method_86_code (3 : Nat) (Option.some Jvm.ClassFile.FieldType.int)) ∈ zW := zW_t (List.mem_of_getElem? (i := 1618) (by decide +kernel)) rfl
theorem q1619 : (Jvm.Cond.methodLink "TraceMachinesLaw" (122 : Nat) ({ cls := "TraceMachinesModel", name := "held", desc := "(IIZ)I" } : Jvm.MethodName)) ∈ zW := zW_t (List.mem_of_getElem? (i := 1619) (by decide +kernel)) rfl
theorem q1620 : (Jvm.Cond.instanceMethod ({ cls := "TraceMachinesModel", name := "held", desc := "(IIZ)I" } : Jvm.MethodName)) ∈ zW := zW_t (List.mem_of_getElem? (i := 1620) (by decide +kernel)) rfl
theorem q1621 : (Jvm.Cond.selects "TraceMachinesModel" ({ cls := "TraceMachinesModel", name := "held", desc := "(IIZ)I" } : Jvm.MethodName) ({ cls := "TraceMachinesModel", name := "held", desc := "(IIZ)I" } : Jvm.MethodName)) ∈ zW := zW_t (List.mem_of_getElem? (i := 1621) (by decide +kernel)) rfl
theorem q1622 : (Jvm.Cond.code ({ cls := "TraceMachinesModel", name := "held", desc := "(IIZ)I" } : Jvm.MethodName) prog_14_method_88_code (4 : Nat) (Option.some Jvm.ClassFile.FieldType.int)) ∈ zW := zW_t (List.mem_of_getElem? (i := 1622) (by decide +kernel)) rfl
theorem q1623 : (Jvm.Cond.methodLink "TraceMachinesModel" (414 : Nat) ({ cls := "TraceMachinesModel", name := "isTakenBy", desc := "(IIZ)Z" } : Jvm.MethodName)) ∈ zW := zW_t (List.mem_of_getElem? (i := 1623) (by decide +kernel)) rfl
theorem q1625 : (Jvm.Cond.instanceMethod ({ cls := "TraceMachinesModel", name := "isTakenBy", desc := "(IIZ)Z" } : Jvm.MethodName)) ∈ zW := zW_t (List.mem_of_getElem? (i := 1625) (by decide +kernel)) rfl
theorem q1626 : (Jvm.Cond.code ({ cls := "TraceMachinesModel", name := "isTakenBy", desc := "(IIZ)Z" } : Jvm.MethodName) prog_14_method_87_code (4 : Nat) (Option.some Jvm.ClassFile.FieldType.boolean)) ∈ zW := zW_t (List.mem_of_getElem? (i := 1626) (by decide +kernel)) rfl
theorem q1627 : (Jvm.Cond.methodLink "TraceMachinesModel" (411 : Nat) ({ cls := "TraceMachinesModel", name := "takeTrace", desc := "(I)V" } : Jvm.MethodName)) ∈ zW := zW_t (List.mem_of_getElem? (i := 1627) (by decide +kernel)) rfl
theorem q1629 : (Jvm.Cond.instanceMethod ({ cls := "TraceMachinesModel", name := "takeTrace", desc := "(I)V" } : Jvm.MethodName)) ∈ zW := zW_t (List.mem_of_getElem? (i := 1629) (by decide +kernel)) rfl
theorem q1630 : (Jvm.Cond.code ({ cls := "TraceMachinesModel", name := "takeTrace", desc := "(I)V" } : Jvm.MethodName) prog_14_method_53_code (3 : Nat) (Option.none : Option Jvm.ClassFile.FieldType)) ∈ zW := zW_t (List.mem_of_getElem? (i := 1630) (by decide +kernel)) rfl
theorem q1631 : (Jvm.Cond.methodLink "TraceMachinesLaw" (126 : Nat) ({ cls := "TraceMachinesModel", name := "fit", desc := "(II)I" } : Jvm.MethodName)) ∈ zW := zW_t (List.mem_of_getElem? (i := 1631) (by decide +kernel)) rfl
theorem q1632 : (Jvm.Cond.instanceMethod ({ cls := "TraceMachinesModel", name := "fit", desc := "(II)I" } : Jvm.MethodName)) ∈ zW := zW_t (List.mem_of_getElem? (i := 1632) (by decide +kernel)) rfl
theorem q1633 : (Jvm.Cond.selects "TraceMachinesModel" ({ cls := "TraceMachinesModel", name := "fit", desc := "(II)I" } : Jvm.MethodName) ({ cls := "TraceMachinesModel", name := "fit", desc := "(II)I" } : Jvm.MethodName)) ∈ zW := zW_t (List.mem_of_getElem? (i := 1633) (by decide +kernel)) rfl
theorem q1634 : (Jvm.Cond.code ({ cls := "TraceMachinesModel", name := "fit", desc := "(II)I" } : Jvm.MethodName) prog_14_method_90_code (3 : Nat) (Option.some Jvm.ClassFile.FieldType.int)) ∈ zW := zW_t (List.mem_of_getElem? (i := 1634) (by decide +kernel)) rfl
theorem q1635 : (Jvm.Cond.methodLink "TraceMachinesModel" (418 : Nat) ({ cls := "TraceMachinesModel", name := "fitBy", desc := "(II)I" } : Jvm.MethodName)) ∈ zW := zW_t (List.mem_of_getElem? (i := 1635) (by decide +kernel)) rfl
theorem q1637 : (Jvm.Cond.instanceMethod ({ cls := "TraceMachinesModel", name := "fitBy", desc := "(II)I" } : Jvm.MethodName)) ∈ zW := zW_t (List.mem_of_getElem? (i := 1637) (by decide +kernel)) rfl
theorem q1638 : (Jvm.Cond.code ({ cls := "TraceMachinesModel", name := "fitBy", desc := "(II)I" } : Jvm.MethodName) prog_14_method_89_code (5 : Nat) (Option.some Jvm.ClassFile.FieldType.int)) ∈ zW := zW_t (List.mem_of_getElem? (i := 1638) (by decide +kernel)) rfl
theorem q1639 : (Jvm.Cond.methodLink "TraceMachinesLaw" (130 : Nat) ({ cls := "TraceMachinesModel", name := "best", desc := "(I)I" } : Jvm.MethodName)) ∈ zW := zW_t (List.mem_of_getElem? (i := 1639) (by decide +kernel)) rfl
theorem q1640 : (Jvm.Cond.instanceMethod ({ cls := "TraceMachinesModel", name := "best", desc := "(I)I" } : Jvm.MethodName)) ∈ zW := zW_t (List.mem_of_getElem? (i := 1640) (by decide +kernel)) rfl
theorem q1641 : (Jvm.Cond.selects "TraceMachinesModel" ({ cls := "TraceMachinesModel", name := "best", desc := "(I)I" } : Jvm.MethodName) ({ cls := "TraceMachinesModel", name := "best", desc := "(I)I" } : Jvm.MethodName)) ∈ zW := zW_t (List.mem_of_getElem? (i := 1641) (by decide +kernel)) rfl
theorem q1642 : (Jvm.Cond.code ({ cls := "TraceMachinesModel", name := "best", desc := "(I)I" } : Jvm.MethodName) prog_14_method_91_code (8 : Nat) (Option.some Jvm.ClassFile.FieldType.int)) ∈ zW := zW_t (List.mem_of_getElem? (i := 1642) (by decide +kernel)) rfl
theorem q1643 : (Jvm.Cond.methodLink "TraceMachinesLaw" (134 : Nat) ({ cls := "TraceMachinesModel", name := "keep", desc := "(I)Z" } : Jvm.MethodName)) ∈ zW := zW_t (List.mem_of_getElem? (i := 1643) (by decide +kernel)) rfl
theorem q1644 : (Jvm.Cond.instanceMethod ({ cls := "TraceMachinesModel", name := "keep", desc := "(I)Z" } : Jvm.MethodName)) ∈ zW := zW_t (List.mem_of_getElem? (i := 1644) (by decide +kernel)) rfl
theorem q1645 : (Jvm.Cond.selects "TraceMachinesModel" ({ cls := "TraceMachinesModel", name := "keep", desc := "(I)Z" } : Jvm.MethodName) ({ cls := "TraceMachinesModel", name := "keep", desc := "(I)Z" } : Jvm.MethodName)) ∈ zW := zW_t (List.mem_of_getElem? (i := 1645) (by decide +kernel)) rfl
theorem q1646 : (Jvm.Cond.code ({ cls := "TraceMachinesModel", name := "keep", desc := "(I)Z" } : Jvm.MethodName) prog_14_method_92_code (3 : Nat) (Option.some Jvm.ClassFile.FieldType.boolean)) ∈ zW := zW_t (List.mem_of_getElem? (i := 1646) (by decide +kernel)) rfl
theorem q1647 : (Jvm.Cond.methodLink "TraceMachinesLaw" (138 : Nat) ({ cls := "TraceMachinesModel", name := "again", desc := "(I)Z" } : Jvm.MethodName)) ∈ zW := zW_t (List.mem_of_getElem? (i := 1647) (by decide +kernel)) rfl
theorem q1648 : (Jvm.Cond.instanceMethod ({ cls := "TraceMachinesModel", name := "again", desc := "(I)Z" } : Jvm.MethodName)) ∈ zW := zW_t (List.mem_of_getElem? (i := 1648) (by decide +kernel)) rfl
theorem q1649 : (Jvm.Cond.selects "TraceMachinesModel" ({ cls := "TraceMachinesModel", name := "again", desc := "(I)Z" } : Jvm.MethodName) ({ cls := "TraceMachinesModel", name := "again", desc := "(I)Z" } : Jvm.MethodName)) ∈ zW := zW_t (List.mem_of_getElem? (i := 1649) (by decide +kernel)) rfl
theorem q1650 : (Jvm.Cond.code ({ cls := "TraceMachinesModel", name := "again", desc := "(I)Z" } : Jvm.MethodName) prog_14_method_93_code (3 : Nat) (Option.some Jvm.ClassFile.FieldType.boolean)) ∈ zW := zW_t (List.mem_of_getElem? (i := 1650) (by decide +kernel)) rfl
theorem q1651 : (Jvm.Cond.methodLink "TraceMachinesLaw" (142 : Nat) ({ cls := "TraceMachinesModel", name := "count", desc := "(I)I" } : Jvm.MethodName)) ∈ zW := zW_t (List.mem_of_getElem? (i := 1651) (by decide +kernel)) rfl
theorem q1652 : (Jvm.Cond.instanceMethod ({ cls := "TraceMachinesModel", name := "count", desc := "(I)I" } : Jvm.MethodName)) ∈ zW := zW_t (List.mem_of_getElem? (i := 1652) (by decide +kernel)) rfl
theorem q1653 : (Jvm.Cond.selects "TraceMachinesModel" ({ cls := "TraceMachinesModel", name := "count", desc := "(I)I" } : Jvm.MethodName) ({ cls := "TraceMachinesModel", name := "count", desc := "(I)I" } : Jvm.MethodName)) ∈ zW := zW_t (List.mem_of_getElem? (i := 1653) (by decide +kernel)) rfl
theorem q1654 : (Jvm.Cond.code ({ cls := "TraceMachinesModel", name := "count", desc := "(I)I" } : Jvm.MethodName) prog_14_method_96_code (2 : Nat) (Option.some Jvm.ClassFile.FieldType.int)) ∈ zW := zW_t (List.mem_of_getElem? (i := 1654) (by decide +kernel)) rfl
theorem q1655 : (Jvm.Cond.methodLink "TraceMachinesModel" (421 : Nat) ({ cls := "TraceMachinesModel", name := "callsOfAll", desc := "()I" } : Jvm.MethodName)) ∈ zW := zW_t (List.mem_of_getElem? (i := 1655) (by decide +kernel)) rfl
theorem q1657 : (Jvm.Cond.instanceMethod ({ cls := "TraceMachinesModel", name := "callsOfAll", desc := "()I" } : Jvm.MethodName)) ∈ zW := zW_t (List.mem_of_getElem? (i := 1657) (by decide +kernel)) rfl
theorem q1658 : (Jvm.Cond.code ({ cls := "TraceMachinesModel", name := "callsOfAll", desc := "()I" } : Jvm.MethodName) prog_14_method_94_code (3 : Nat) (Option.some Jvm.ClassFile.FieldType.int)) ∈ zW := zW_t (List.mem_of_getElem? (i := 1658) (by decide +kernel)) rfl
theorem q1659 : (Jvm.Cond.methodLink "TraceMachinesModel" (424 : Nat) ({ cls := "TraceMachinesModel", name := "finals", desc := "()I" } : Jvm.MethodName)) ∈ zW := zW_t (List.mem_of_getElem? (i := 1659) (by decide +kernel)) rfl
theorem q1661 : (Jvm.Cond.instanceMethod ({ cls := "TraceMachinesModel", name := "finals", desc := "()I" } : Jvm.MethodName)) ∈ zW := zW_t (List.mem_of_getElem? (i := 1661) (by decide +kernel)) rfl
theorem q1662 : (Jvm.Cond.code ({ cls := "TraceMachinesModel", name := "finals", desc := "()I" } : Jvm.MethodName) prog_14_method_95_code (3 : Nat) (Option.some Jvm.ClassFile.FieldType.int)) ∈ zW := zW_t (List.mem_of_getElem? (i := 1662) (by decide +kernel)) rfl
theorem qs0 : Cond.selects "TraceMachines" ⟨"TraceMachines", "remember", "()V"⟩ ⟨"TraceMachines", "remember", "()V"⟩ ∈ zW := zW_s (List.mem_of_getElem? (i := 0) (by decide +kernel)) rfl
theorem qs1 : Cond.selects "TraceMachines" ⟨"TraceMachines", "forgetFound", "()V"⟩ ⟨"TraceMachines", "forgetFound", "()V"⟩ ∈ zW := zW_s (List.mem_of_getElem? (i := 1) (by decide +kernel)) rfl
theorem qs2 : Cond.selects "TraceMachines" ⟨"TraceMachines", "machine", "(I)LTraceMachines$Machine;"⟩ ⟨"TraceMachines", "machine", "(I)LTraceMachines$Machine;"⟩ ∈ zW := zW_s (List.mem_of_getElem? (i := 2) (by decide +kernel)) rfl
theorem qs3 : Cond.selects "TraceMachines$Tree" ⟨"TraceMachines$Tree", "follow", "(LTraceMachines$Traces;I)V"⟩ ⟨"TraceMachines$Tree", "follow", "(LTraceMachines$Traces;I)V"⟩ ∈ zW := zW_s (List.mem_of_getElem? (i := 3) (by decide +kernel)) rfl
theorem qs4 : Cond.selects "TraceMachines$Tree" ⟨"TraceMachines$Tree", "addPrefix", "(II)I"⟩ ⟨"TraceMachines$Tree", "addPrefix", "(II)I"⟩ ∈ zW := zW_s (List.mem_of_getElem? (i := 4) (by decide +kernel)) rfl
theorem qs5 : Cond.selects "TraceMachines$Tree" ⟨"TraceMachines$Tree", "stepFrom", "(II)I"⟩ ⟨"TraceMachines$Tree", "stepFrom", "(II)I"⟩ ∈ zW := zW_s (List.mem_of_getElem? (i := 5) (by decide +kernel)) rfl
theorem qs6 : Cond.selects "TraceMachines$Follows" ⟨"TraceMachines$Follows", "insert", "(II)V"⟩ ⟨"TraceMachines$Follows", "insert", "(II)V"⟩ ∈ zW := zW_s (List.mem_of_getElem? (i := 6) (by decide +kernel)) rfl
theorem qs7 : Cond.selects "TraceMachines$Machine" ⟨"TraceMachines$Machine", "foldStates", "(LTraceMachines$Tree;LTraceMachines$Follows;)V"⟩ ⟨"TraceMachines$Machine", "foldStates", "(LTraceMachines$Tree;LTraceMachines$Follows;)V"⟩ ∈ zW := zW_s (List.mem_of_getElem? (i := 7) (by decide +kernel)) rfl
theorem qs8 : Cond.selects "TraceMachines$Follows" ⟨"TraceMachines$Follows", "hashOf", "(I)I"⟩ ⟨"TraceMachines$Follows", "hashOf", "(I)I"⟩ ∈ zW := zW_s (List.mem_of_getElem? (i := 8) (by decide +kernel)) rfl
theorem qs9 : Cond.selects "TraceMachines$Follows" ⟨"TraceMachines$Follows", "isLike", "(II)Z"⟩ ⟨"TraceMachines$Follows", "isLike", "(II)Z"⟩ ∈ zW := zW_s (List.mem_of_getElem? (i := 9) (by decide +kernel)) rfl
theorem qs10 : Cond.selects "TraceMachines$Machine" ⟨"TraceMachines$Machine", "gatherKeys", "(LTraceMachines$Tree;)V"⟩ ⟨"TraceMachines$Machine", "gatherKeys", "(LTraceMachines$Tree;)V"⟩ ∈ zW := zW_s (List.mem_of_getElem? (i := 10) (by decide +kernel)) rfl
theorem qs11 : Cond.selects "TraceMachines$Machine" ⟨"TraceMachines$Machine", "keyOf", "(LTraceMachines$Tree;I)I"⟩ ⟨"TraceMachines$Machine", "keyOf", "(LTraceMachines$Tree;I)I"⟩ ∈ zW := zW_s (List.mem_of_getElem? (i := 11) (by decide +kernel)) rfl
theorem qs12 : Cond.selects "TraceMachines$Machine" ⟨"TraceMachines$Machine", "placeOf", "(I)I"⟩ ⟨"TraceMachines$Machine", "placeOf", "(I)I"⟩ ∈ zW := zW_s (List.mem_of_getElem? (i := 12) (by decide +kernel)) rfl
theorem qs13 : Cond.selects "TraceMachines$Machine" ⟨"TraceMachines$Machine", "gatherRanges", "(LTraceMachines$Tree;)V"⟩ ⟨"TraceMachines$Machine", "gatherRanges", "(LTraceMachines$Tree;)V"⟩ ∈ zW := zW_s (List.mem_of_getElem? (i := 13) (by decide +kernel)) rfl
theorem qs14 : Cond.selects "TraceMachines$Machine" ⟨"TraceMachines$Machine", "gatherFirsts", "()V"⟩ ⟨"TraceMachines$Machine", "gatherFirsts", "()V"⟩ ∈ zW := zW_s (List.mem_of_getElem? (i := 14) (by decide +kernel)) rfl
theorem qs15 : Cond.selects "TraceMachines" ⟨"TraceMachines", "slack", "(Z)I"⟩ ⟨"TraceMachines", "slack", "(Z)I"⟩ ∈ zW := zW_s (List.mem_of_getElem? (i := 15) (by decide +kernel)) rfl
theorem qs16 : Cond.selects "TraceMachines$Machine" ⟨"TraceMachines$Machine", "goOn", "(LTraceMachines$StateSets;III)V"⟩ ⟨"TraceMachines$Machine", "goOn", "(LTraceMachines$StateSets;III)V"⟩ ∈ zW := zW_s (List.mem_of_getElem? (i := 16) (by decide +kernel)) rfl
theorem qs17 : Cond.selects "TraceMachines$Cover" ⟨"TraceMachines$Cover", "gather", "(LTraceMachines$Traces;LTraceMachines$Tree;LTraceMachines$Machine;)V"⟩ ⟨"TraceMachines$Cover", "gather", "(LTraceMachines$Traces;LTraceMachines$Tree;LTraceMachines$Machine;)V"⟩ ∈ zW := zW_s (List.mem_of_getElem? (i := 17) (by decide +kernel)) rfl
theorem qs18 : Cond.selects "TraceMachines$Cover" ⟨"TraceMachines$Cover", "leaveOutImplied", "()V"⟩ ⟨"TraceMachines$Cover", "leaveOutImplied", "()V"⟩ ∈ zW := zW_s (List.mem_of_getElem? (i := 18) (by decide +kernel)) rfl
theorem qs19 : Cond.selects "TraceMachines$Cover" ⟨"TraceMachines$Cover", "isImplied", "(II)Z"⟩ ⟨"TraceMachines$Cover", "isImplied", "(II)Z"⟩ ∈ zW := zW_s (List.mem_of_getElem? (i := 19) (by decide +kernel)) rfl
theorem qs20 : Cond.selects "TraceMachines$Cover" ⟨"TraceMachines$Cover", "search", "(III)V"⟩ ⟨"TraceMachines$Cover", "search", "(III)V"⟩ ∈ zW := zW_s (List.mem_of_getElem? (i := 20) (by decide +kernel)) rfl
theorem qs21 : Cond.selects "TraceMachines$Cover" ⟨"TraceMachines$Cover", "hardest", "(II)I"⟩ ⟨"TraceMachines$Cover", "hardest", "(II)I"⟩ ∈ zW := zW_s (List.mem_of_getElem? (i := 21) (by decide +kernel)) rfl
theorem qs22 : Cond.selects "TraceMachines$Words" ⟨"TraceMachines$Words", "stepWays", "(LTraceMachines$Machine;I)V"⟩ ⟨"TraceMachines$Words", "stepWays", "(LTraceMachines$Machine;I)V"⟩ ∈ zW := zW_s (List.mem_of_getElem? (i := 22) (by decide +kernel)) rfl
theorem qs23 : Cond.selects "TraceMachines$StateSets" ⟨"TraceMachines$StateSets", "hashOf", "(I)I"⟩ ⟨"TraceMachines$StateSets", "hashOf", "(I)I"⟩ ∈ zW := zW_s (List.mem_of_getElem? (i := 23) (by decide +kernel)) rfl
theorem qs24 : Cond.selects "TraceMachines$StateSets" ⟨"TraceMachines$StateSets", "append", "(LTraceMachines$StateSets;II)I"⟩ ⟨"TraceMachines$StateSets", "append", "(LTraceMachines$StateSets;II)I"⟩ ∈ zW := zW_s (List.mem_of_getElem? (i := 24) (by decide +kernel)) rfl
theorem qs25 : Cond.selects "TraceMachines$StateSets" ⟨"TraceMachines$StateSets", "isLike", "(ILTraceMachines$StateSets;I)Z"⟩ ⟨"TraceMachines$StateSets", "isLike", "(ILTraceMachines$StateSets;I)Z"⟩ ∈ zW := zW_s (List.mem_of_getElem? (i := 25) (by decide +kernel)) rfl
theorem qs26 : Cond.selects "TraceMachines$Words" ⟨"TraceMachines$Words", "goOn", "(LTraceMachines$Machine;)Z"⟩ ⟨"TraceMachines$Words", "goOn", "(LTraceMachines$Machine;)Z"⟩ ∈ zW := zW_s (List.mem_of_getElem? (i := 26) (by decide +kernel)) rfl
theorem qs27 : Cond.selects "TraceMachines$Words" ⟨"TraceMachines$Words", "comeTo", "(II)Z"⟩ ⟨"TraceMachines$Words", "comeTo", "(II)Z"⟩ ∈ zW := zW_s (List.mem_of_getElem? (i := 27) (by decide +kernel)) rfl
theorem qs28 : Cond.selects "TraceMachines$Words" ⟨"TraceMachines$Words", "takenNext", "(LTraceMachines$Machine;)I"⟩ ⟨"TraceMachines$Words", "takenNext", "(LTraceMachines$Machine;)I"⟩ ∈ zW := zW_s (List.mem_of_getElem? (i := 28) (by decide +kernel)) rfl
theorem qs29 : Cond.selects "TraceMachines$Parting" ⟨"TraceMachines$Parting", "begin", "(LTraceMachines$Machine;LTraceMachines$Machine;)V"⟩ ⟨"TraceMachines$Parting", "begin", "(LTraceMachines$Machine;LTraceMachines$Machine;)V"⟩ ∈ zW := zW_s (List.mem_of_getElem? (i := 29) (by decide +kernel)) rfl
theorem qs30 : Cond.selects "TraceMachines$Parting" ⟨"TraceMachines$Parting", "spell", "(I)V"⟩ ⟨"TraceMachines$Parting", "spell", "(I)V"⟩ ∈ zW := zW_s (List.mem_of_getElem? (i := 30) (by decide +kernel)) rfl
theorem qs31 : Cond.selects "TraceMachines$Parting" ⟨"TraceMachines$Parting", "goOn", "(LTraceMachines$Machine;LTraceMachines$Machine;I)Z"⟩ ⟨"TraceMachines$Parting", "goOn", "(LTraceMachines$Machine;LTraceMachines$Machine;I)Z"⟩ ∈ zW := zW_s (List.mem_of_getElem? (i := 31) (by decide +kernel)) rfl
theorem qs32 : Cond.selects "TraceMachines$Pair" ⟨"TraceMachines$Pair", "look", "(LTraceMachines$Traces;III)V"⟩ ⟨"TraceMachines$Pair", "look", "(LTraceMachines$Traces;III)V"⟩ ∈ zW := zW_s (List.mem_of_getElem? (i := 32) (by decide +kernel)) rfl
theorem qs33 : Cond.selects "TraceMachines$Pair" ⟨"TraceMachines$Pair", "forgetLooks", "()V"⟩ ⟨"TraceMachines$Pair", "forgetLooks", "()V"⟩ ∈ zW := zW_s (List.mem_of_getElem? (i := 33) (by decide +kernel)) rfl
theorem qs34 : Cond.selects "TraceMachines$Pair" ⟨"TraceMachines$Pair", "meetX", "(I)V"⟩ ⟨"TraceMachines$Pair", "meetX", "(I)V"⟩ ∈ zW := zW_s (List.mem_of_getElem? (i := 34) (by decide +kernel)) rfl
theorem qs35 : Cond.selects "TraceMachines$Pair" ⟨"TraceMachines$Pair", "meetY", "(I)V"⟩ ⟨"TraceMachines$Pair", "meetY", "(I)V"⟩ ∈ zW := zW_s (List.mem_of_getElem? (i := 35) (by decide +kernel)) rfl
theorem qs36 : Cond.selects "TraceMachines$Pair" ⟨"TraceMachines$Pair", "isAsked", "(I)Z"⟩ ⟨"TraceMachines$Pair", "isAsked", "(I)Z"⟩ ∈ zW := zW_s (List.mem_of_getElem? (i := 36) (by decide +kernel)) rfl
theorem qs37 : Cond.selects "TraceMachines$Pair" ⟨"TraceMachines$Pair", "isSo", "(I)Z"⟩ ⟨"TraceMachines$Pair", "isSo", "(I)Z"⟩ ∈ zW := zW_s (List.mem_of_getElem? (i := 37) (by decide +kernel)) rfl
theorem qs38 : Cond.selects "TraceMachines$Odds" ⟨"TraceMachines$Odds", "meet", "(II)V"⟩ ⟨"TraceMachines$Odds", "meet", "(II)V"⟩ ∈ zW := zW_s (List.mem_of_getElem? (i := 38) (by decide +kernel)) rfl
theorem qs39 : Cond.selects "TraceMachines$Odds" ⟨"TraceMachines$Odds", "isOdder", "(II)Z"⟩ ⟨"TraceMachines$Odds", "isOdder", "(II)Z"⟩ ∈ zW := zW_s (List.mem_of_getElem? (i := 39) (by decide +kernel)) rfl
theorem qs40 : Cond.selects "TraceMachines" ⟨"TraceMachines", "foldOthers", "(II)V"⟩ ⟨"TraceMachines", "foldOthers", "(II)V"⟩ ∈ zW := zW_s (List.mem_of_getElem? (i := 40) (by decide +kernel)) rfl
theorem qs41 : Cond.selects "TraceMachines" ⟨"TraceMachines", "takenByOthers", "(IZ)Z"⟩ ⟨"TraceMachines", "takenByOthers", "(IZ)Z"⟩ ∈ zW := zW_s (List.mem_of_getElem? (i := 41) (by decide +kernel)) rfl
theorem qs42 : Cond.selects "TraceMachines" ⟨"TraceMachines", "fitting", "(IZ)I"⟩ ⟨"TraceMachines", "fitting", "(IZ)I"⟩ ∈ zW := zW_s (List.mem_of_getElem? (i := 42) (by decide +kernel)) rfl
theorem qs43 : Cond.selects "java/lang/Throwable" ⟨"java/lang/Throwable", "fillInStackTrace", "(I)Ljava/lang/Throwable;"⟩ ⟨"java/lang/Throwable", "fillInStackTrace", "(I)Ljava/lang/Throwable;"⟩ ∈ zW := zW_s (List.mem_of_getElem? (i := 43) (by decide +kernel)) rfl
theorem qs44 : Cond.selects "TraceMachinesModel" ⟨"TraceMachinesModel", "readTrace", "()V"⟩ ⟨"TraceMachinesModel", "readTrace", "()V"⟩ ∈ zW := zW_s (List.mem_of_getElem? (i := 44) (by decide +kernel)) rfl
theorem qs45 : Cond.selects "TraceMachinesModel" ⟨"TraceMachinesModel", "next", "()I"⟩ ⟨"TraceMachinesModel", "next", "()I"⟩ ∈ zW := zW_s (List.mem_of_getElem? (i := 45) (by decide +kernel)) rfl
theorem qs46 : Cond.selects "TraceMachinesModel" ⟨"TraceMachinesModel", "wrong", "()V"⟩ ⟨"TraceMachinesModel", "wrong", "()V"⟩ ∈ zW := zW_s (List.mem_of_getElem? (i := 46) (by decide +kernel)) rfl
theorem qs47 : Cond.selects "TraceMachinesModel" ⟨"TraceMachinesModel", "readCalls", "()V"⟩ ⟨"TraceMachinesModel", "readCalls", "()V"⟩ ∈ zW := zW_s (List.mem_of_getElem? (i := 47) (by decide +kernel)) rfl
theorem qs48 : Cond.selects "TraceMachinesModel" ⟨"TraceMachinesModel", "isDigitHere", "()Z"⟩ ⟨"TraceMachinesModel", "isDigitHere", "()Z"⟩ ∈ zW := zW_s (List.mem_of_getElem? (i := 48) (by decide +kernel)) rfl
theorem qs49 : Cond.selects "TraceMachinesModel" ⟨"TraceMachinesModel", "endsReading", "()V"⟩ ⟨"TraceMachinesModel", "endsReading", "()V"⟩ ∈ zW := zW_s (List.mem_of_getElem? (i := 49) (by decide +kernel)) rfl
theorem qs50 : Cond.selects "TraceMachinesModel" ⟨"TraceMachinesModel", "remember", "()V"⟩ ⟨"TraceMachinesModel", "remember", "()V"⟩ ∈ zW := zW_s (List.mem_of_getElem? (i := 50) (by decide +kernel)) rfl
theorem qs51 : Cond.selects "TraceMachinesModel" ⟨"TraceMachinesModel", "many", "()I"⟩ ⟨"TraceMachinesModel", "many", "()I"⟩ ∈ zW := zW_s (List.mem_of_getElem? (i := 51) (by decide +kernel)) rfl
theorem qs52 : Cond.selects "TraceMachinesModel" ⟨"TraceMachinesModel", "isTrace", "(I)Z"⟩ ⟨"TraceMachinesModel", "isTrace", "(I)Z"⟩ ∈ zW := zW_s (List.mem_of_getElem? (i := 52) (by decide +kernel)) rfl
theorem qs53 : Cond.selects "TraceMachinesModel" ⟨"TraceMachinesModel", "change", "(III)I"⟩ ⟨"TraceMachinesModel", "change", "(III)I"⟩ ∈ zW := zW_s (List.mem_of_getElem? (i := 53) (by decide +kernel)) rfl
theorem qs54 : Cond.selects "TraceMachinesModel" ⟨"TraceMachinesModel", "calls", "(I)I"⟩ ⟨"TraceMachinesModel", "calls", "(I)I"⟩ ∈ zW := zW_s (List.mem_of_getElem? (i := 54) (by decide +kernel)) rfl
theorem qs55 : Cond.selects "TraceMachinesModel" ⟨"TraceMachinesModel", "lay", "()V"⟩ ⟨"TraceMachinesModel", "lay", "()V"⟩ ∈ zW := zW_s (List.mem_of_getElem? (i := 55) (by decide +kernel)) rfl
theorem qs56 : Cond.selects "TraceMachinesModel" ⟨"TraceMachinesModel", "lay", "(III)V"⟩ ⟨"TraceMachinesModel", "lay", "(III)V"⟩ ∈ zW := zW_s (List.mem_of_getElem? (i := 56) (by decide +kernel)) rfl
theorem qs57 : Cond.selects "TraceMachinesModel" ⟨"TraceMachinesModel", "layPrefixes", "(II)V"⟩ ⟨"TraceMachinesModel", "layPrefixes", "(II)V"⟩ ∈ zW := zW_s (List.mem_of_getElem? (i := 57) (by decide +kernel)) rfl
theorem qs58 : Cond.selects "TraceMachinesModel" ⟨"TraceMachinesModel", "newPrefix", "(I)V"⟩ ⟨"TraceMachinesModel", "newPrefix", "(I)V"⟩ ∈ zW := zW_s (List.mem_of_getElem? (i := 58) (by decide +kernel)) rfl
theorem qs59 : Cond.selects "TraceMachinesModel" ⟨"TraceMachinesModel", "letterAt", "(II)I"⟩ ⟨"TraceMachinesModel", "letterAt", "(II)I"⟩ ∈ zW := zW_s (List.mem_of_getElem? (i := 59) (by decide +kernel)) rfl
theorem qs60 : Cond.selects "TraceMachinesModel" ⟨"TraceMachinesModel", "layStates", "(III)V"⟩ ⟨"TraceMachinesModel", "layStates", "(III)V"⟩ ∈ zW := zW_s (List.mem_of_getElem? (i := 60) (by decide +kernel)) rfl
theorem qs61 : Cond.selects "TraceMachinesModel" ⟨"TraceMachinesModel", "pathOf", "(III)I"⟩ ⟨"TraceMachinesModel", "pathOf", "(III)I"⟩ ∈ zW := zW_s (List.mem_of_getElem? (i := 61) (by decide +kernel)) rfl
theorem qs62 : Cond.selects "TraceMachinesModel" ⟨"TraceMachinesModel", "rowBehind", "(III)I"⟩ ⟨"TraceMachinesModel", "rowBehind", "(III)I"⟩ ∈ zW := zW_s (List.mem_of_getElem? (i := 62) (by decide +kernel)) rfl
theorem qs63 : Cond.selects "TraceMachinesModel" ⟨"TraceMachinesModel", "addFollow", "(II)V"⟩ ⟨"TraceMachinesModel", "addFollow", "(II)V"⟩ ∈ zW := zW_s (List.mem_of_getElem? (i := 63) (by decide +kernel)) rfl
theorem qs64 : Cond.selects "TraceMachinesModel" ⟨"TraceMachinesModel", "areAlike", "(II)Z"⟩ ⟨"TraceMachinesModel", "areAlike", "(II)Z"⟩ ∈ zW := zW_s (List.mem_of_getElem? (i := 64) (by decide +kernel)) rfl
theorem qs65 : Cond.selects "TraceMachinesModel" ⟨"TraceMachinesModel", "addEdge", "(III)V"⟩ ⟨"TraceMachinesModel", "addEdge", "(III)V"⟩ ∈ zW := zW_s (List.mem_of_getElem? (i := 65) (by decide +kernel)) rfl
theorem qs66 : Cond.selects "TraceMachinesModel" ⟨"TraceMachinesModel", "stateAt", "(III)I"⟩ ⟨"TraceMachinesModel", "stateAt", "(III)I"⟩ ∈ zW := zW_s (List.mem_of_getElem? (i := 66) (by decide +kernel)) rfl
theorem qs67 : Cond.selects "TraceMachinesModel" ⟨"TraceMachinesModel", "placeOf", "(IIII)I"⟩ ⟨"TraceMachinesModel", "placeOf", "(IIII)I"⟩ ∈ zW := zW_s (List.mem_of_getElem? (i := 67) (by decide +kernel)) rfl
theorem qs68 : Cond.selects "TraceMachinesModel" ⟨"TraceMachinesModel", "edgeAt", "(III)I"⟩ ⟨"TraceMachinesModel", "edgeAt", "(III)I"⟩ ∈ zW := zW_s (List.mem_of_getElem? (i := 68) (by decide +kernel)) rfl
theorem qs69 : Cond.selects "TraceMachinesModel" ⟨"TraceMachinesModel", "valueAt", "(II)I"⟩ ⟨"TraceMachinesModel", "valueAt", "(II)I"⟩ ∈ zW := zW_s (List.mem_of_getElem? (i := 69) (by decide +kernel)) rfl
theorem qs70 : Cond.selects "TraceMachinesModel" ⟨"TraceMachinesModel", "isFinal", "(II)Z"⟩ ⟨"TraceMachinesModel", "isFinal", "(II)Z"⟩ ∈ zW := zW_s (List.mem_of_getElem? (i := 70) (by decide +kernel)) rfl
theorem qs71 : Cond.selects "TraceMachinesModel" ⟨"TraceMachinesModel", "leaving", "(IZ)I"⟩ ⟨"TraceMachinesModel", "leaving", "(IZ)I"⟩ ∈ zW := zW_s (List.mem_of_getElem? (i := 71) (by decide +kernel)) rfl
theorem qs72 : Cond.selects "TraceMachinesModel" ⟨"TraceMachinesModel", "areTwo", "(II)Z"⟩ ⟨"TraceMachinesModel", "areTwo", "(II)Z"⟩ ∈ zW := zW_s (List.mem_of_getElem? (i := 72) (by decide +kernel)) rfl
theorem qs73 : Cond.selects "TraceMachinesModel" ⟨"TraceMachinesModel", "haveCommon", "(II)Z"⟩ ⟨"TraceMachinesModel", "haveCommon", "(II)Z"⟩ ∈ zW := zW_s (List.mem_of_getElem? (i := 73) (by decide +kernel)) rfl
theorem qs74 : Cond.selects "TraceMachinesModel" ⟨"TraceMachinesModel", "runs", "(IZ)I"⟩ ⟨"TraceMachinesModel", "runs", "(IZ)I"⟩ ∈ zW := zW_s (List.mem_of_getElem? (i := 74) (by decide +kernel)) rfl
theorem qs75 : Cond.selects "TraceMachinesModel" ⟨"TraceMachinesModel", "start", "(I)V"⟩ ⟨"TraceMachinesModel", "start", "(I)V"⟩ ∈ zW := zW_s (List.mem_of_getElem? (i := 75) (by decide +kernel)) rfl
theorem qs76 : Cond.selects "TraceMachinesModel" ⟨"TraceMachinesModel", "step", "(I[JIIIZ)V"⟩ ⟨"TraceMachinesModel", "step", "(I[JIIIZ)V"⟩ ∈ zW := zW_s (List.mem_of_getElem? (i := 76) (by decide +kernel)) rfl
theorem qs77 : Cond.selects "TraceMachinesModel" ⟨"TraceMachinesModel", "takes", "(I[JI)Z"⟩ ⟨"TraceMachinesModel", "takes", "(I[JI)Z"⟩ ∈ zW := zW_s (List.mem_of_getElem? (i := 77) (by decide +kernel)) rfl
theorem qs78 : Cond.selects "TraceMachinesModel" ⟨"TraceMachinesModel", "layGoes", "()V"⟩ ⟨"TraceMachinesModel", "layGoes", "()V"⟩ ∈ zW := zW_s (List.mem_of_getElem? (i := 78) (by decide +kernel)) rfl
theorem qs79 : Cond.selects "TraceMachinesModel" ⟨"TraceMachinesModel", "coversAll", "(I)Z"⟩ ⟨"TraceMachinesModel", "coversAll", "(I)Z"⟩ ∈ zW := zW_s (List.mem_of_getElem? (i := 79) (by decide +kernel)) rfl
theorem qs80 : Cond.selects "TraceMachinesModel" ⟨"TraceMachinesModel", "stepWays", "(I)V"⟩ ⟨"TraceMachinesModel", "stepWays", "(I)V"⟩ ∈ zW := zW_s (List.mem_of_getElem? (i := 80) (by decide +kernel)) rfl
theorem qs81 : Cond.selects "TraceMachinesModel" ⟨"TraceMachinesModel", "nextLevel", "()V"⟩ ⟨"TraceMachinesModel", "nextLevel", "()V"⟩ ∈ zW := zW_s (List.mem_of_getElem? (i := 81) (by decide +kernel)) rfl
theorem qs82 : Cond.selects "TraceMachinesModel" ⟨"TraceMachinesModel", "addNext", "(I)V"⟩ ⟨"TraceMachinesModel", "addNext", "(I)V"⟩ ∈ zW := zW_s (List.mem_of_getElem? (i := 82) (by decide +kernel)) rfl
theorem qs83 : Cond.selects "TraceMachinesModel" ⟨"TraceMachinesModel", "partsAt", "()I"⟩ ⟨"TraceMachinesModel", "partsAt", "()I"⟩ ∈ zW := zW_s (List.mem_of_getElem? (i := 83) (by decide +kernel)) rfl
theorem qs84 : Cond.selects "TraceMachinesModel" ⟨"TraceMachinesModel", "addTwo", "(II)V"⟩ ⟨"TraceMachinesModel", "addTwo", "(II)V"⟩ ∈ zW := zW_s (List.mem_of_getElem? (i := 84) (by decide +kernel)) rfl
theorem qs85 : Cond.selects "TraceMachinesModel" ⟨"TraceMachinesModel", "stepTwo", "(II)V"⟩ ⟨"TraceMachinesModel", "stepTwo", "(II)V"⟩ ∈ zW := zW_s (List.mem_of_getElem? (i := 85) (by decide +kernel)) rfl
theorem qs86 : Cond.selects "TraceMachinesModel" ⟨"TraceMachinesModel", "isKnown", "()Z"⟩ ⟨"TraceMachinesModel", "isKnown", "()Z"⟩ ∈ zW := zW_s (List.mem_of_getElem? (i := 86) (by decide +kernel)) rfl
theorem qs87 : Cond.selects "TraceMachinesModel" ⟨"TraceMachinesModel", "asked", "(IIIZ)I"⟩ ⟨"TraceMachinesModel", "asked", "(IIIZ)I"⟩ ∈ zW := zW_s (List.mem_of_getElem? (i := 87) (by decide +kernel)) rfl
theorem qs88 : Cond.selects "TraceMachinesModel" ⟨"TraceMachinesModel", "isAsked", "(IIII)Z"⟩ ⟨"TraceMachinesModel", "isAsked", "(IIII)Z"⟩ ∈ zW := zW_s (List.mem_of_getElem? (i := 88) (by decide +kernel)) rfl
theorem qs89 : Cond.selects "TraceMachinesModel" ⟨"TraceMachinesModel", "hasLetter", "(II)Z"⟩ ⟨"TraceMachinesModel", "hasLetter", "(II)Z"⟩ ∈ zW := zW_s (List.mem_of_getElem? (i := 89) (by decide +kernel)) rfl
theorem qs90 : Cond.selects "TraceMachinesModel" ⟨"TraceMachinesModel", "isSo", "(IIII)Z"⟩ ⟨"TraceMachinesModel", "isSo", "(IIII)Z"⟩ ∈ zW := zW_s (List.mem_of_getElem? (i := 90) (by decide +kernel)) rfl
theorem qs91 : Cond.selects "TraceMachinesModel" ⟨"TraceMachinesModel", "lastOf", "(II)I"⟩ ⟨"TraceMachinesModel", "lastOf", "(II)I"⟩ ∈ zW := zW_s (List.mem_of_getElem? (i := 91) (by decide +kernel)) rfl
theorem qs92 : Cond.selects "TraceMachinesModel" ⟨"TraceMachinesModel", "firstOf", "(II)I"⟩ ⟨"TraceMachinesModel", "firstOf", "(II)I"⟩ ∈ zW := zW_s (List.mem_of_getElem? (i := 92) (by decide +kernel)) rfl
theorem qs93 : Cond.selects "TraceMachinesModel" ⟨"TraceMachinesModel", "rightBehind", "(III)Z"⟩ ⟨"TraceMachinesModel", "rightBehind", "(III)Z"⟩ ∈ zW := zW_s (List.mem_of_getElem? (i := 93) (by decide +kernel)) rfl
theorem qs94 : Cond.selects "TraceMachinesModel" ⟨"TraceMachinesModel", "howOften", "(II)I"⟩ ⟨"TraceMachinesModel", "howOften", "(II)I"⟩ ∈ zW := zW_s (List.mem_of_getElem? (i := 94) (by decide +kernel)) rfl
theorem qs95 : Cond.selects "TraceMachinesModel" ⟨"TraceMachinesModel", "inTurn", "(III)Z"⟩ ⟨"TraceMachinesModel", "inTurn", "(III)Z"⟩ ∈ zW := zW_s (List.mem_of_getElem? (i := 95) (by decide +kernel)) rfl
theorem qs96 : Cond.selects "TraceMachinesModel" ⟨"TraceMachinesModel", "layWeak", "()V"⟩ ⟨"TraceMachinesModel", "layWeak", "()V"⟩ ∈ zW := zW_s (List.mem_of_getElem? (i := 96) (by decide +kernel)) rfl
theorem qs97 : Cond.selects "TraceMachinesModel" ⟨"TraceMachinesModel", "placeAmong", "(I)I"⟩ ⟨"TraceMachinesModel", "placeAmong", "(I)I"⟩ ∈ zW := zW_s (List.mem_of_getElem? (i := 97) (by decide +kernel)) rfl
theorem qs98 : Cond.selects "TraceMachinesModel" ⟨"TraceMachinesModel", "isAhead", "(II)Z"⟩ ⟨"TraceMachinesModel", "isAhead", "(II)Z"⟩ ∈ zW := zW_s (List.mem_of_getElem? (i := 98) (by decide +kernel)) rfl
theorem qs99 : Cond.selects "TraceMachinesModel" ⟨"TraceMachinesModel", "isTakenBy", "(IIZ)Z"⟩ ⟨"TraceMachinesModel", "isTakenBy", "(IIZ)Z"⟩ ∈ zW := zW_s (List.mem_of_getElem? (i := 99) (by decide +kernel)) rfl
theorem qs100 : Cond.selects "TraceMachinesModel" ⟨"TraceMachinesModel", "takeTrace", "(I)V"⟩ ⟨"TraceMachinesModel", "takeTrace", "(I)V"⟩ ∈ zW := zW_s (List.mem_of_getElem? (i := 100) (by decide +kernel)) rfl
theorem qs101 : Cond.selects "TraceMachinesModel" ⟨"TraceMachinesModel", "fitBy", "(II)I"⟩ ⟨"TraceMachinesModel", "fitBy", "(II)I"⟩ ∈ zW := zW_s (List.mem_of_getElem? (i := 101) (by decide +kernel)) rfl
theorem qs102 : Cond.selects "TraceMachinesModel" ⟨"TraceMachinesModel", "callsOfAll", "()I"⟩ ⟨"TraceMachinesModel", "callsOfAll", "()I"⟩ ∈ zW := zW_s (List.mem_of_getElem? (i := 102) (by decide +kernel)) rfl
theorem qs103 : Cond.selects "TraceMachinesModel" ⟨"TraceMachinesModel", "finals", "()I"⟩ ⟨"TraceMachinesModel", "finals", "()I"⟩ ∈ zW := zW_s (List.mem_of_getElem? (i := 103) (by decide +kernel)) rfl
end
section
def R_X : String := "TraceMachines"
def F_X : u_T := fun k => match k with
  | 0 => ("TraceMachines", "text", "LTraceMachines$Text;", true)
  | 1 => ("TraceMachines", "now", "LTraceMachines$Traces;", true)
  | 2 => ("TraceMachines", "read", "LTraceMachines$Traces;", true)
  | 3 => ("TraceMachines", "past", "[LTraceMachines$Traces;", true)
  | 4 => ("TraceMachines", "pastNext", "I", false)
  | 5 => ("TraceMachines", "pastCount", "I", false)
  | 6 => ("TraceMachines", "kept", "[LTraceMachines$Traces;", true)
  | 7 => ("TraceMachines", "tree", "LTraceMachines$Tree;", true)
  | 8 => ("TraceMachines", "follows", "LTraceMachines$Follows;", true)
  | 9 => ("TraceMachines", "machines", "[LTraceMachines$Machine;", true)
  | 10 => ("TraceMachines", "treeOfOthers", "LTraceMachines$Tree;", true)
  | 11 => ("TraceMachines", "machineOfOthers", "LTraceMachines$Machine;", true)
  | 12 => ("TraceMachines", "running", "LTraceMachines$StateSets;", true)
  | 13 => ("TraceMachines", "ran", "[I", true)
  | 14 => ("TraceMachines", "wordsFound", "LTraceMachines$Words;", true)
  | 15 => ("TraceMachines", "parting", "LTraceMachines$Parting;", true)
  | 16 => ("TraceMachines", "covering", "LTraceMachines$Cover;", true)
  | 17 => ("TraceMachines", "pair", "LTraceMachines$Pair;", true)
  | 18 => ("TraceMachines", "odds", "LTraceMachines$Odds;", true)
  | _ => ("TraceMachines", "fits", "[I", true)
def t_X : Nat → FieldType := fun k => match k with
  | 0 => .object "TraceMachines$Text"
  | 1 => .object "TraceMachines$Traces"
  | 2 => .object "TraceMachines$Traces"
  | 3 => .array (.object "TraceMachines$Traces")
  | 4 => .int
  | 5 => .int
  | 6 => .array (.object "TraceMachines$Traces")
  | 7 => .object "TraceMachines$Tree"
  | 8 => .object "TraceMachines$Follows"
  | 9 => .array (.object "TraceMachines$Machine")
  | 10 => .object "TraceMachines$Tree"
  | 11 => .object "TraceMachines$Machine"
  | 12 => .object "TraceMachines$StateSets"
  | 13 => .array .int
  | 14 => .object "TraceMachines$Words"
  | 15 => .object "TraceMachines$Parting"
  | 16 => .object "TraceMachines$Cover"
  | 17 => .object "TraceMachines$Pair"
  | 18 => .object "TraceMachines$Odds"
  | _ => .array .int
theorem n_X : ∀ a, a < 20 → ∀ b, b < 20 → a ≠ b → (F_X a).2.1 ≠ (F_X b).2.1 := by decide +kernel
theorem t_X_ok : ∀ k, k < 20 → parseFieldDescriptor (F_X k).2.2.1 = some (t_X k) := by decide +kernel
theorem i_X : ∀ w ∈ u_ws R_X F_X 20, w ∈ zW := List.forall_mem_cons.mpr ⟨q437, List.forall_mem_cons.mpr ⟨q439, List.forall_mem_cons.mpr ⟨q441, List.forall_mem_cons.mpr ⟨q443, List.forall_mem_cons.mpr ⟨q445, List.forall_mem_cons.mpr ⟨q447, List.forall_mem_cons.mpr ⟨q449, List.forall_mem_cons.mpr ⟨q451, List.forall_mem_cons.mpr ⟨q453, List.forall_mem_cons.mpr ⟨q455, List.forall_mem_cons.mpr ⟨q457, List.forall_mem_cons.mpr ⟨q459, List.forall_mem_cons.mpr ⟨q461, List.forall_mem_cons.mpr ⟨q463, List.forall_mem_cons.mpr ⟨q465, List.forall_mem_cons.mpr ⟨q467, List.forall_mem_cons.mpr ⟨q469, List.forall_mem_cons.mpr ⟨q471, List.forall_mem_cons.mpr ⟨q473, List.forall_mem_cons.mpr ⟨q475, fun _ h => absurd h List.not_mem_nil⟩⟩⟩⟩⟩⟩⟩⟩⟩⟩⟩⟩⟩⟩⟩⟩⟩⟩⟩⟩
def R_Text : String := "TraceMachines$Text"
def F_Text : u_T := fun k => match k with
  | 0 => ("TraceMachines$Text", "length", "I", false)
  | _ => ("TraceMachines$Text", "signs", "[C", true)
def t_Text : Nat → FieldType := fun k => match k with
  | 0 => .int
  | _ => .array .char
theorem n_Text : ∀ a, a < 2 → ∀ b, b < 2 → a ≠ b → (F_Text a).2.1 ≠ (F_Text b).2.1 := by decide +kernel
theorem t_Text_ok : ∀ k, k < 2 → parseFieldDescriptor (F_Text k).2.2.1 = some (t_Text k) := by decide +kernel
theorem i_Text : ∀ w ∈ u_ws R_Text F_Text 2, w ∈ zW := List.forall_mem_cons.mpr ⟨q40, List.forall_mem_cons.mpr ⟨q42, fun _ h => absurd h List.not_mem_nil⟩⟩
def R_Traces : String := "TraceMachines$Traces"
def F_Traces : u_T := fun k => match k with
  | 0 => ("TraceMachines$Traces", "count", "I", false)
  | 1 => ("TraceMachines$Traces", "depth", "I", false)
  | 2 => ("TraceMachines$Traces", "margin", "I", false)
  | 3 => ("TraceMachines$Traces", "lengths", "[I", true)
  | 4 => ("TraceMachines$Traces", "letters", "[I", true)
  | _ => ("TraceMachines$Traces", "values", "[I", true)
def t_Traces : Nat → FieldType := fun k => match k with
  | 0 => .int
  | 1 => .int
  | 2 => .int
  | 3 => .array .int
  | 4 => .array .int
  | _ => .array .int
theorem n_Traces : ∀ a, a < 6 → ∀ b, b < 6 → a ≠ b → (F_Traces a).2.1 ≠ (F_Traces b).2.1 := by decide +kernel
theorem t_Traces_ok : ∀ k, k < 6 → parseFieldDescriptor (F_Traces k).2.2.1 = some (t_Traces k) := by decide +kernel
theorem i_Traces : ∀ w ∈ u_ws R_Traces F_Traces 6, w ∈ zW := List.forall_mem_cons.mpr ⟨q74, List.forall_mem_cons.mpr ⟨q76, List.forall_mem_cons.mpr ⟨q78, List.forall_mem_cons.mpr ⟨q80, List.forall_mem_cons.mpr ⟨q82, List.forall_mem_cons.mpr ⟨q84, fun _ h => absurd h List.not_mem_nil⟩⟩⟩⟩⟩⟩
def R_Tree : String := "TraceMachines$Tree"
def F_Tree : u_T := fun k => match k with
  | 0 => ("TraceMachines$Tree", "known", "Z", false)
  | 1 => ("TraceMachines$Tree", "without", "I", false)
  | 2 => ("TraceMachines$Tree", "prefixes", "I", false)
  | 3 => ("TraceMachines$Tree", "parent", "[I", true)
  | 4 => ("TraceMachines$Tree", "letter", "[I", true)
  | 5 => ("TraceMachines$Tree", "goers", "[I", true)
  | 6 => ("TraceMachines$Tree", "enders", "[I", true)
  | 7 => ("TraceMachines$Tree", "low", "[I", true)
  | 8 => ("TraceMachines$Tree", "high", "[I", true)
  | 9 => ("TraceMachines$Tree", "longer", "[I", true)
  | _ => ("TraceMachines$Tree", "places", "[I", true)
def t_Tree : Nat → FieldType := fun k => match k with
  | 0 => .boolean
  | 1 => .int
  | 2 => .int
  | 3 => .array .int
  | 4 => .array .int
  | 5 => .array .int
  | 6 => .array .int
  | 7 => .array .int
  | 8 => .array .int
  | 9 => .array .int
  | _ => .array .int
theorem n_Tree : ∀ a, a < 11 → ∀ b, b < 11 → a ≠ b → (F_Tree a).2.1 ≠ (F_Tree b).2.1 := by decide +kernel
theorem t_Tree_ok : ∀ k, k < 11 → parseFieldDescriptor (F_Tree k).2.2.1 = some (t_Tree k) := by decide +kernel
theorem i_Tree : ∀ w ∈ u_ws R_Tree F_Tree 11, w ∈ zW := List.forall_mem_cons.mpr ⟨q117, List.forall_mem_cons.mpr ⟨q119, List.forall_mem_cons.mpr ⟨q121, List.forall_mem_cons.mpr ⟨q123, List.forall_mem_cons.mpr ⟨q125, List.forall_mem_cons.mpr ⟨q127, List.forall_mem_cons.mpr ⟨q129, List.forall_mem_cons.mpr ⟨q131, List.forall_mem_cons.mpr ⟨q133, List.forall_mem_cons.mpr ⟨q135, List.forall_mem_cons.mpr ⟨q137, fun _ h => absurd h List.not_mem_nil⟩⟩⟩⟩⟩⟩⟩⟩⟩⟩⟩
def R_Follows : String := "TraceMachines$Follows"
def F_Follows : u_T := fun k => match k with
  | 0 => ("TraceMachines$Follows", "counts", "[I", true)
  | 1 => ("TraceMachines$Follows", "rows", "[I", true)
  | _ => ("TraceMachines$Follows", "slots", "[I", true)
def t_Follows : Nat → FieldType := fun k => match k with
  | 0 => .array .int
  | 1 => .array .int
  | _ => .array .int
theorem n_Follows : ∀ a, a < 3 → ∀ b, b < 3 → a ≠ b → (F_Follows a).2.1 ≠ (F_Follows b).2.1 := by decide +kernel
theorem t_Follows_ok : ∀ k, k < 3 → parseFieldDescriptor (F_Follows k).2.2.1 = some (t_Follows k) := by decide +kernel
theorem i_Follows : ∀ w ∈ u_ws R_Follows F_Follows 3, w ∈ zW := List.forall_mem_cons.mpr ⟨q150, List.forall_mem_cons.mpr ⟨q152, List.forall_mem_cons.mpr ⟨q154, fun _ h => absurd h List.not_mem_nil⟩⟩⟩
def R_Machine : String := "TraceMachines$Machine"
def F_Machine : u_T := fun k => match k with
  | 0 => ("TraceMachines$Machine", "known", "Z", false)
  | 1 => ("TraceMachines$Machine", "states", "I", false)
  | 2 => ("TraceMachines$Machine", "stateOf", "[I", true)
  | 3 => ("TraceMachines$Machine", "leastPrefix", "[I", true)
  | 4 => ("TraceMachines$Machine", "prefixes", "[I", true)
  | 5 => ("TraceMachines$Machine", "enders", "[I", true)
  | 6 => ("TraceMachines$Machine", "rows", "[I", true)
  | 7 => ("TraceMachines$Machine", "finals", "[J", true)
  | 8 => ("TraceMachines$Machine", "edges", "I", false)
  | 9 => ("TraceMachines$Machine", "keys", "[I", true)
  | 10 => ("TraceMachines$Machine", "support", "[I", true)
  | 11 => ("TraceMachines$Machine", "low", "[I", true)
  | 12 => ("TraceMachines$Machine", "high", "[I", true)
  | 13 => ("TraceMachines$Machine", "firstEdge", "[I", true)
  | _ => ("TraceMachines$Machine", "edgeTo", "[I", true)
def t_Machine : Nat → FieldType := fun k => match k with
  | 0 => .boolean
  | 1 => .int
  | 2 => .array .int
  | 3 => .array .int
  | 4 => .array .int
  | 5 => .array .int
  | 6 => .array .int
  | 7 => .array .long
  | 8 => .int
  | 9 => .array .int
  | 10 => .array .int
  | 11 => .array .int
  | 12 => .array .int
  | 13 => .array .int
  | _ => .array .int
theorem n_Machine : ∀ a, a < 15 → ∀ b, b < 15 → a ≠ b → (F_Machine a).2.1 ≠ (F_Machine b).2.1 := by decide +kernel
theorem t_Machine_ok : ∀ k, k < 15 → parseFieldDescriptor (F_Machine k).2.2.1 = some (t_Machine k) := by decide +kernel
theorem i_Machine : ∀ w ∈ u_ws R_Machine F_Machine 15, w ∈ zW := List.forall_mem_cons.mpr ⟨q201, List.forall_mem_cons.mpr ⟨q203, List.forall_mem_cons.mpr ⟨q205, List.forall_mem_cons.mpr ⟨q207, List.forall_mem_cons.mpr ⟨q209, List.forall_mem_cons.mpr ⟨q211, List.forall_mem_cons.mpr ⟨q213, List.forall_mem_cons.mpr ⟨q215, List.forall_mem_cons.mpr ⟨q217, List.forall_mem_cons.mpr ⟨q219, List.forall_mem_cons.mpr ⟨q221, List.forall_mem_cons.mpr ⟨q223, List.forall_mem_cons.mpr ⟨q225, List.forall_mem_cons.mpr ⟨q227, List.forall_mem_cons.mpr ⟨q229, fun _ h => absurd h List.not_mem_nil⟩⟩⟩⟩⟩⟩⟩⟩⟩⟩⟩⟩⟩⟩⟩
def R_Sets : String := "TraceMachines$StateSets"
def F_Sets : u_T := fun k => match k with
  | 0 => ("TraceMachines$StateSets", "count", "I", false)
  | 1 => ("TraceMachines$StateSets", "width", "I", true)
  | 2 => ("TraceMachines$StateSets", "room", "I", true)
  | 3 => ("TraceMachines$StateSets", "bits", "[J", true)
  | _ => ("TraceMachines$StateSets", "slots", "[I", true)
def t_Sets : Nat → FieldType := fun k => match k with
  | 0 => .int
  | 1 => .int
  | 2 => .int
  | 3 => .array .long
  | _ => .array .int
theorem n_Sets : ∀ a, a < 5 → ∀ b, b < 5 → a ≠ b → (F_Sets a).2.1 ≠ (F_Sets b).2.1 := by decide +kernel
theorem t_Sets_ok : ∀ k, k < 5 → parseFieldDescriptor (F_Sets k).2.2.1 = some (t_Sets k) := by decide +kernel
theorem i_Sets : ∀ w ∈ u_ws R_Sets F_Sets 5, w ∈ zW := List.forall_mem_cons.mpr ⟨q246, List.forall_mem_cons.mpr ⟨q248, List.forall_mem_cons.mpr ⟨q250, List.forall_mem_cons.mpr ⟨q252, List.forall_mem_cons.mpr ⟨q254, fun _ h => absurd h List.not_mem_nil⟩⟩⟩⟩⟩
def R_Words : String := "TraceMachines$Words"
def F_Words : u_T := fun k => match k with
  | 0 => ("TraceMachines$Words", "path", "[I", true)
  | 1 => ("TraceMachines$Words", "fan", "LTraceMachines$StateSets;", true)
  | 2 => ("TraceMachines$Words", "here", "LTraceMachines$StateSets;", false)
  | 3 => ("TraceMachines$Words", "next", "LTraceMachines$StateSets;", false)
  | 4 => ("TraceMachines$Words", "wordsHere", "[I", false)
  | 5 => ("TraceMachines$Words", "wordsNext", "[I", false)
  | 6 => ("TraceMachines$Words", "waysHere", "[I", false)
  | _ => ("TraceMachines$Words", "waysNext", "[I", false)
def t_Words : Nat → FieldType := fun k => match k with
  | 0 => .array .int
  | 1 => .object "TraceMachines$StateSets"
  | 2 => .object "TraceMachines$StateSets"
  | 3 => .object "TraceMachines$StateSets"
  | 4 => .array .int
  | 5 => .array .int
  | 6 => .array .int
  | _ => .array .int
theorem n_Words : ∀ a, a < 8 → ∀ b, b < 8 → a ≠ b → (F_Words a).2.1 ≠ (F_Words b).2.1 := by decide +kernel
theorem t_Words_ok : ∀ k, k < 8 → parseFieldDescriptor (F_Words k).2.2.1 = some (t_Words k) := by decide +kernel
theorem i_Words : ∀ w ∈ u_ws R_Words F_Words 8, w ∈ zW := List.forall_mem_cons.mpr ⟨q274, List.forall_mem_cons.mpr ⟨q276, List.forall_mem_cons.mpr ⟨q278, List.forall_mem_cons.mpr ⟨q280, List.forall_mem_cons.mpr ⟨q282, List.forall_mem_cons.mpr ⟨q284, List.forall_mem_cons.mpr ⟨q286, List.forall_mem_cons.mpr ⟨q288, fun _ h => absurd h List.not_mem_nil⟩⟩⟩⟩⟩⟩⟩⟩
def R_Parting : String := "TraceMachines$Parting"
def F_Parting : u_T := fun k => match k with
  | 0 => ("TraceMachines$Parting", "known", "Z", false)
  | 1 => ("TraceMachines$Parting", "letters", "I", false)
  | 2 => ("TraceMachines$Parting", "word", "[I", true)
  | 3 => ("TraceMachines$Parting", "depth", "I", false)
  | 4 => ("TraceMachines$Parting", "otherDepth", "I", false)
  | 5 => ("TraceMachines$Parting", "twos", "LTraceMachines$StateSets;", true)
  | 6 => ("TraceMachines$Parting", "fan", "LTraceMachines$StateSets;", true)
  | 7 => ("TraceMachines$Parting", "cameFrom", "[I", true)
  | 8 => ("TraceMachines$Parting", "cameBy", "[I", true)
  | _ => ("TraceMachines$Parting", "lengths", "[I", true)
def t_Parting : Nat → FieldType := fun k => match k with
  | 0 => .boolean
  | 1 => .int
  | 2 => .array .int
  | 3 => .int
  | 4 => .int
  | 5 => .object "TraceMachines$StateSets"
  | 6 => .object "TraceMachines$StateSets"
  | 7 => .array .int
  | 8 => .array .int
  | _ => .array .int
theorem n_Parting : ∀ a, a < 10 → ∀ b, b < 10 → a ≠ b → (F_Parting a).2.1 ≠ (F_Parting b).2.1 := by decide +kernel
theorem t_Parting_ok : ∀ k, k < 10 → parseFieldDescriptor (F_Parting k).2.2.1 = some (t_Parting k) := by decide +kernel
theorem i_Parting : ∀ w ∈ u_ws R_Parting F_Parting 10, w ∈ zW := List.forall_mem_cons.mpr ⟨q312, List.forall_mem_cons.mpr ⟨q314, List.forall_mem_cons.mpr ⟨q316, List.forall_mem_cons.mpr ⟨q318, List.forall_mem_cons.mpr ⟨q320, List.forall_mem_cons.mpr ⟨q322, List.forall_mem_cons.mpr ⟨q324, List.forall_mem_cons.mpr ⟨q326, List.forall_mem_cons.mpr ⟨q328, List.forall_mem_cons.mpr ⟨q330, fun _ h => absurd h List.not_mem_nil⟩⟩⟩⟩⟩⟩⟩⟩⟩⟩
def R_Cover : String := "TraceMachines$Cover"
def F_Cover : u_T := fun k => match k with
  | 0 => ("TraceMachines$Cover", "known", "Z", false)
  | 1 => ("TraceMachines$Cover", "best", "I", false)
  | 2 => ("TraceMachines$Cover", "bestSize", "I", false)
  | 3 => ("TraceMachines$Cover", "goers", "[I", true)
  | _ => ("TraceMachines$Cover", "count", "I", false)
def t_Cover : Nat → FieldType := fun k => match k with
  | 0 => .boolean
  | 1 => .int
  | 2 => .int
  | 3 => .array .int
  | _ => .int
theorem n_Cover : ∀ a, a < 5 → ∀ b, b < 5 → a ≠ b → (F_Cover a).2.1 ≠ (F_Cover b).2.1 := by decide +kernel
theorem t_Cover_ok : ∀ k, k < 5 → parseFieldDescriptor (F_Cover k).2.2.1 = some (t_Cover k) := by decide +kernel
theorem i_Cover : ∀ w ∈ u_ws R_Cover F_Cover 5, w ∈ zW := List.forall_mem_cons.mpr ⟨q346, List.forall_mem_cons.mpr ⟨q348, List.forall_mem_cons.mpr ⟨q350, List.forall_mem_cons.mpr ⟨q352, List.forall_mem_cons.mpr ⟨q354, fun _ h => absurd h List.not_mem_nil⟩⟩⟩⟩⟩
def R_Pair : String := "TraceMachines$Pair"
def F_Pair : u_T := fun k => match k with
  | 0 => ("TraceMachines$Pair", "asked", "I", false)
  | 1 => ("TraceMachines$Pair", "so", "I", false)
  | 2 => ("TraceMachines$Pair", "firstX", "I", false)
  | 3 => ("TraceMachines$Pair", "lastX", "I", false)
  | 4 => ("TraceMachines$Pair", "countX", "I", false)
  | 5 => ("TraceMachines$Pair", "firstY", "I", false)
  | 6 => ("TraceMachines$Pair", "lastY", "I", false)
  | 7 => ("TraceMachines$Pair", "countY", "I", false)
  | 8 => ("TraceMachines$Pair", "rightBehind", "Z", false)
  | _ => ("TraceMachines$Pair", "inTurn", "Z", false)
def t_Pair : Nat → FieldType := fun k => match k with
  | 0 => .int
  | 1 => .int
  | 2 => .int
  | 3 => .int
  | 4 => .int
  | 5 => .int
  | 6 => .int
  | 7 => .int
  | 8 => .boolean
  | _ => .boolean
theorem n_Pair : ∀ a, a < 10 → ∀ b, b < 10 → a ≠ b → (F_Pair a).2.1 ≠ (F_Pair b).2.1 := by decide +kernel
theorem t_Pair_ok : ∀ k, k < 10 → parseFieldDescriptor (F_Pair k).2.2.1 = some (t_Pair k) := by decide +kernel
theorem i_Pair : ∀ w ∈ u_ws R_Pair F_Pair 10, w ∈ zW := List.forall_mem_cons.mpr ⟨q375, List.forall_mem_cons.mpr ⟨q377, List.forall_mem_cons.mpr ⟨q379, List.forall_mem_cons.mpr ⟨q381, List.forall_mem_cons.mpr ⟨q383, List.forall_mem_cons.mpr ⟨q385, List.forall_mem_cons.mpr ⟨q387, List.forall_mem_cons.mpr ⟨q389, List.forall_mem_cons.mpr ⟨q391, List.forall_mem_cons.mpr ⟨q393, fun _ h => absurd h List.not_mem_nil⟩⟩⟩⟩⟩⟩⟩⟩⟩⟩
def R_Odds : String := "TraceMachines$Odds"
def F_Odds : u_T := fun k => match k with
  | 0 => ("TraceMachines$Odds", "weakness", "[I", true)
  | 1 => ("TraceMachines$Odds", "calls", "[I", true)
  | _ => ("TraceMachines$Odds", "count", "I", false)
def t_Odds : Nat → FieldType := fun k => match k with
  | 0 => .array .int
  | 1 => .array .int
  | _ => .int
theorem n_Odds : ∀ a, a < 3 → ∀ b, b < 3 → a ≠ b → (F_Odds a).2.1 ≠ (F_Odds b).2.1 := by decide +kernel
theorem t_Odds_ok : ∀ k, k < 3 → parseFieldDescriptor (F_Odds k).2.2.1 = some (t_Odds k) := by decide +kernel
theorem i_Odds : ∀ w ∈ u_ws R_Odds F_Odds 3, w ∈ zW := List.forall_mem_cons.mpr ⟨q407, List.forall_mem_cons.mpr ⟨q409, List.forall_mem_cons.mpr ⟨q411, fun _ h => absurd h List.not_mem_nil⟩⟩⟩
def R_Model : String := "TraceMachinesModel"
def F_Model : u_T := fun k => match k with
  | 0 => ("TraceMachinesModel", "thrown", "I", false)
  | 1 => ("TraceMachinesModel", "row", "[I", true)
  | 2 => ("TraceMachinesModel", "kept", "[I", true)
  | 3 => ("TraceMachinesModel", "isKept", "[Z", true)
  | 4 => ("TraceMachinesModel", "undos", "[I", true)
  | 5 => ("TraceMachinesModel", "nUndo", "I", false)
  | 6 => ("TraceMachinesModel", "text", "[B", true)
  | 7 => ("TraceMachinesModel", "texted", "I", false)
  | 8 => ("TraceMachinesModel", "reading", "I", false)
  | 9 => ("TraceMachinesModel", "fault", "I", false)
  | 10 => ("TraceMachinesModel", "isGood", "Z", false)
  | 11 => ("TraceMachinesModel", "draft", "[I", true)
  | 12 => ("TraceMachinesModel", "runLetter", "[I", true)
  | 13 => ("TraceMachinesModel", "runValue", "[I", true)
  | 14 => ("TraceMachinesModel", "runLong", "I", false)
  | 15 => ("TraceMachinesModel", "prefixMany", "[I", true)
  | 16 => ("TraceMachinesModel", "child", "[I", true)
  | 17 => ("TraceMachinesModel", "path", "[I", true)
  | 18 => ("TraceMachinesModel", "follows", "[I", true)
  | 19 => ("TraceMachinesModel", "followMany", "[I", true)
  | 20 => ("TraceMachinesModel", "stateOf", "[I", true)
  | 21 => ("TraceMachinesModel", "stateMany", "[I", true)
  | 22 => ("TraceMachinesModel", "least", "[I", true)
  | 23 => ("TraceMachinesModel", "prefixesOf", "[I", true)
  | 24 => ("TraceMachinesModel", "endsIn", "[I", true)
  | 25 => ("TraceMachinesModel", "edgeMany", "[I", true)
  | 26 => ("TraceMachinesModel", "edge", "[I", true)
  | 27 => ("TraceMachinesModel", "isThere", "Z", false)
  | 28 => ("TraceMachinesModel", "now", "[J", true)
  | 29 => ("TraceMachinesModel", "then", "[J", true)
  | 30 => ("TraceMachinesModel", "hasRun", "Z", false)
  | 31 => ("TraceMachinesModel", "ranAt", "I", false)
  | 32 => ("TraceMachinesModel", "ranMany", "I", false)
  | 33 => ("TraceMachinesModel", "ranLeast", "I", false)
  | 34 => ("TraceMachinesModel", "lowGo", "[J", true)
  | 35 => ("TraceMachinesModel", "highGo", "[J", true)
  | 36 => ("TraceMachinesModel", "goes", "[J", true)
  | 37 => ("TraceMachinesModel", "waysNow", "[J", true)
  | 38 => ("TraceMachinesModel", "waysThen", "[J", true)
  | 39 => ("TraceMachinesModel", "sets", "[J", true)
  | 40 => ("TraceMachinesModel", "setWords", "[I", true)
  | 41 => ("TraceMachinesModel", "setMany", "I", false)
  | 42 => ("TraceMachinesModel", "nextSets", "[J", true)
  | 43 => ("TraceMachinesModel", "nextWords", "[I", true)
  | 44 => ("TraceMachinesModel", "nextMany", "I", false)
  | 45 => ("TraceMachinesModel", "twos", "[J", true)
  | 46 => ("TraceMachinesModel", "twoFrom", "[I", true)
  | 47 => ("TraceMachinesModel", "twoBy", "[I", true)
  | 48 => ("TraceMachinesModel", "twoLong", "[I", true)
  | 49 => ("TraceMachinesModel", "two", "[J", true)
  | 50 => ("TraceMachinesModel", "twoMany", "I", false)
  | 51 => ("TraceMachinesModel", "walked", "[I", true)
  | 52 => ("TraceMachinesModel", "weak", "[I", true)
  | _ => ("TraceMachinesModel", "weakMany", "[I", true)
def t_Model : Nat → FieldType := fun k => match k with
  | 0 => .int
  | 1 => .array .int
  | 2 => .array .int
  | 3 => .array .boolean
  | 4 => .array .int
  | 5 => .int
  | 6 => .array .byte
  | 7 => .int
  | 8 => .int
  | 9 => .int
  | 10 => .boolean
  | 11 => .array .int
  | 12 => .array .int
  | 13 => .array .int
  | 14 => .int
  | 15 => .array .int
  | 16 => .array .int
  | 17 => .array .int
  | 18 => .array .int
  | 19 => .array .int
  | 20 => .array .int
  | 21 => .array .int
  | 22 => .array .int
  | 23 => .array .int
  | 24 => .array .int
  | 25 => .array .int
  | 26 => .array .int
  | 27 => .boolean
  | 28 => .array .long
  | 29 => .array .long
  | 30 => .boolean
  | 31 => .int
  | 32 => .int
  | 33 => .int
  | 34 => .array .long
  | 35 => .array .long
  | 36 => .array .long
  | 37 => .array .long
  | 38 => .array .long
  | 39 => .array .long
  | 40 => .array .int
  | 41 => .int
  | 42 => .array .long
  | 43 => .array .int
  | 44 => .int
  | 45 => .array .long
  | 46 => .array .int
  | 47 => .array .int
  | 48 => .array .int
  | 49 => .array .long
  | 50 => .int
  | 51 => .array .int
  | 52 => .array .int
  | _ => .array .int
theorem n_Model : ∀ a, a < 54 → ∀ b, b < 54 → a ≠ b → (F_Model a).2.1 ≠ (F_Model b).2.1 := by decide +kernel
theorem t_Model_ok : ∀ k, k < 54 → parseFieldDescriptor (F_Model k).2.2.1 = some (t_Model k) := by decide +kernel
theorem i_Model : ∀ w ∈ u_ws R_Model F_Model 54, w ∈ zW := List.forall_mem_cons.mpr ⟨q1167, List.forall_mem_cons.mpr ⟨q1169, List.forall_mem_cons.mpr ⟨q1171, List.forall_mem_cons.mpr ⟨q1173, List.forall_mem_cons.mpr ⟨q1175, List.forall_mem_cons.mpr ⟨q1177, List.forall_mem_cons.mpr ⟨q1179, List.forall_mem_cons.mpr ⟨q1181, List.forall_mem_cons.mpr ⟨q1183, List.forall_mem_cons.mpr ⟨q1185, List.forall_mem_cons.mpr ⟨q1187, List.forall_mem_cons.mpr ⟨q1189, List.forall_mem_cons.mpr ⟨q1191, List.forall_mem_cons.mpr ⟨q1193, List.forall_mem_cons.mpr ⟨q1195, List.forall_mem_cons.mpr ⟨q1197, List.forall_mem_cons.mpr ⟨q1199, List.forall_mem_cons.mpr ⟨q1201, List.forall_mem_cons.mpr ⟨q1203, List.forall_mem_cons.mpr ⟨q1205, List.forall_mem_cons.mpr ⟨q1207, List.forall_mem_cons.mpr ⟨q1209, List.forall_mem_cons.mpr ⟨q1211, List.forall_mem_cons.mpr ⟨q1213, List.forall_mem_cons.mpr ⟨q1215, List.forall_mem_cons.mpr ⟨q1217, List.forall_mem_cons.mpr ⟨q1219, List.forall_mem_cons.mpr ⟨q1221, List.forall_mem_cons.mpr ⟨q1223, List.forall_mem_cons.mpr ⟨q1225, List.forall_mem_cons.mpr ⟨q1227, List.forall_mem_cons.mpr ⟨q1229, List.forall_mem_cons.mpr ⟨q1231, List.forall_mem_cons.mpr ⟨q1233, List.forall_mem_cons.mpr ⟨q1235, List.forall_mem_cons.mpr ⟨q1237, List.forall_mem_cons.mpr ⟨q1239, List.forall_mem_cons.mpr ⟨q1241, List.forall_mem_cons.mpr ⟨q1243, List.forall_mem_cons.mpr ⟨q1245, List.forall_mem_cons.mpr ⟨q1247, List.forall_mem_cons.mpr ⟨q1249, List.forall_mem_cons.mpr ⟨q1251, List.forall_mem_cons.mpr ⟨q1253, List.forall_mem_cons.mpr ⟨q1255, List.forall_mem_cons.mpr ⟨q1257, List.forall_mem_cons.mpr ⟨q1259, List.forall_mem_cons.mpr ⟨q1261, List.forall_mem_cons.mpr ⟨q1263, List.forall_mem_cons.mpr ⟨q1265, List.forall_mem_cons.mpr ⟨q1267, List.forall_mem_cons.mpr ⟨q1269, List.forall_mem_cons.mpr ⟨q1271, List.forall_mem_cons.mpr ⟨q1273, fun _ h => absurd h List.not_mem_nil⟩⟩⟩⟩⟩⟩⟩⟩⟩⟩⟩⟩⟩⟩⟩⟩⟩⟩⟩⟩⟩⟩⟩⟩⟩⟩⟩⟩⟩⟩⟩⟩⟩⟩⟩⟩⟩⟩⟩⟩⟩⟩⟩⟩⟩⟩⟩⟩⟩⟩⟩⟩⟩⟩
abbrev classes : List vw_C := [(R_X, F_X, 20), (R_Text, F_Text, 2), (R_Traces, F_Traces, 6), (R_Tree, F_Tree, 11), (R_Follows, F_Follows, 3), (R_Machine, F_Machine, 15), (R_Sets, F_Sets, 5), (R_Words, F_Words, 8), (R_Parting, F_Parting, 10), (R_Cover, F_Cover, 5), (R_Pair, F_Pair, 10), (R_Odds, F_Odds, 3), (R_Model, F_Model, 54)]
abbrev y_X_init : MethodName := ⟨"TraceMachines", "<init>", "()V"⟩
abbrev y_Object_init : MethodName := ⟨"java/lang/Object", "<init>", "()V"⟩
abbrev y_Text_init : MethodName := ⟨"TraceMachines$Text", "<init>", "()V"⟩
abbrev y_Traces_init : MethodName := ⟨"TraceMachines$Traces", "<init>", "()V"⟩
abbrev y_Tree_init : MethodName := ⟨"TraceMachines$Tree", "<init>", "()V"⟩
abbrev y_Follows_init : MethodName := ⟨"TraceMachines$Follows", "<init>", "()V"⟩
abbrev y_Machine_init : MethodName := ⟨"TraceMachines$Machine", "<init>", "()V"⟩
abbrev y_Sets_init : MethodName := ⟨"TraceMachines$StateSets", "<init>", "(II)V"⟩
abbrev y_Words_init : MethodName := ⟨"TraceMachines$Words", "<init>", "()V"⟩
abbrev y_Parting_init : MethodName := ⟨"TraceMachines$Parting", "<init>", "()V"⟩
abbrev y_Cover_init : MethodName := ⟨"TraceMachines$Cover", "<init>", "()V"⟩
abbrev y_Pair_init : MethodName := ⟨"TraceMachines$Pair", "<init>", "()V"⟩
abbrev y_Odds_init : MethodName := ⟨"TraceMachines$Odds", "<init>", "()V"⟩
abbrev y_Arrays_fill1 : MethodName := ⟨"java/util/Arrays", "fill", "([II)V"⟩
abbrev y_X_sign : MethodName := ⟨"TraceMachines", "sign", "(I)I"⟩
abbrev y_Text_put : MethodName := ⟨"TraceMachines$Text", "put", "(I)Z"⟩
abbrev y_X_end : MethodName := ⟨"TraceMachines", "end", "(I)Z"⟩
abbrev y_Text_cut : MethodName := ⟨"TraceMachines$Text", "cut", "(I)Z"⟩
abbrev y_X_traces : MethodName := ⟨"TraceMachines", "traces", "()I"⟩
abbrev y_Traces_copyFrom : MethodName := ⟨"TraceMachines$Traces", "copyFrom", "(LTraceMachines$Traces;)V"⟩
abbrev y_Text_parse : MethodName := ⟨"TraceMachines$Text", "parse", "(LTraceMachines$Traces;Z)I"⟩
abbrev y_Traces_addDigit : MethodName := ⟨"TraceMachines$Traces", "addDigit", "(I)V"⟩
abbrev y_Traces_open : MethodName := ⟨"TraceMachines$Traces", "open", "()Z"⟩
abbrev y_X_isLetter : MethodName := ⟨"TraceMachines", "isLetter", "(I)Z"⟩
abbrev y_Traces_add : MethodName := ⟨"TraceMachines$Traces", "add", "(I)Z"⟩
abbrev y_X_remember : MethodName := ⟨"TraceMachines", "remember", "()V"⟩
abbrev y_X_forgetFound : MethodName := ⟨"TraceMachines", "forgetFound", "()V"⟩
abbrev y_X_drop : MethodName := ⟨"TraceMachines", "drop", "(I)I"⟩
abbrev y_Traces_has : MethodName := ⟨"TraceMachines$Traces", "has", "(I)Z"⟩
abbrev y_Traces_remove : MethodName := ⟨"TraceMachines$Traces", "remove", "(I)V"⟩
abbrev y_X_depth : MethodName := ⟨"TraceMachines", "depth", "(I)I"⟩
abbrev y_X_isDepth : MethodName := ⟨"TraceMachines", "isDepth", "(I)Z"⟩
abbrev y_X_margin : MethodName := ⟨"TraceMachines", "margin", "(I)I"⟩
abbrev y_X_undo : MethodName := ⟨"TraceMachines", "undo", "()I"⟩
abbrev y_X_state : MethodName := ⟨"TraceMachines", "state", "(II)I"⟩
abbrev y_X_machine : MethodName := ⟨"TraceMachines", "machine", "(I)LTraceMachines$Machine;"⟩
abbrev y_Tree_grow : MethodName := ⟨"TraceMachines$Tree", "grow", "(LTraceMachines$Traces;I)V"⟩
abbrev y_Tree_follow : MethodName := ⟨"TraceMachines$Tree", "follow", "(LTraceMachines$Traces;I)V"⟩
abbrev y_Tree_addPrefix : MethodName := ⟨"TraceMachines$Tree", "addPrefix", "(II)I"⟩
abbrev y_Traces_letterAt : MethodName := ⟨"TraceMachines$Traces", "letterAt", "(II)I"⟩
abbrev y_Tree_stepFrom : MethodName := ⟨"TraceMachines$Tree", "stepFrom", "(II)I"⟩
abbrev y_Traces_valueAt : MethodName := ⟨"TraceMachines$Traces", "valueAt", "(II)I"⟩
abbrev y_Math_min : MethodName := ⟨"java/lang/Math", "min", "(II)I"⟩
abbrev y_Math_max : MethodName := ⟨"java/lang/Math", "max", "(II)I"⟩
abbrev y_Machine_fold : MethodName := ⟨"TraceMachines$Machine", "fold", "(LTraceMachines$Traces;LTraceMachines$Tree;LTraceMachines$Follows;I)V"⟩
abbrev y_Follows_gather : MethodName := ⟨"TraceMachines$Follows", "gather", "(LTraceMachines$Traces;LTraceMachines$Tree;I)V"⟩
abbrev y_Tree_prefixAt : MethodName := ⟨"TraceMachines$Tree", "prefixAt", "(II)I"⟩
abbrev y_Follows_rowOf : MethodName := ⟨"TraceMachines$Follows", "rowOf", "(LTraceMachines$Traces;III)I"⟩
abbrev y_Follows_insert : MethodName := ⟨"TraceMachines$Follows", "insert", "(II)V"⟩
abbrev y_Machine_foldStates : MethodName := ⟨"TraceMachines$Machine", "foldStates", "(LTraceMachines$Tree;LTraceMachines$Follows;)V"⟩
abbrev y_Arrays_fill2 : MethodName := ⟨"java/util/Arrays", "fill", "([JJ)V"⟩
abbrev y_Follows_firstLike : MethodName := ⟨"TraceMachines$Follows", "firstLike", "(I)I"⟩
abbrev y_Follows_hashOf : MethodName := ⟨"TraceMachines$Follows", "hashOf", "(I)I"⟩
abbrev y_Follows_isLike : MethodName := ⟨"TraceMachines$Follows", "isLike", "(II)Z"⟩
abbrev y_Machine_gatherKeys : MethodName := ⟨"TraceMachines$Machine", "gatherKeys", "(LTraceMachines$Tree;)V"⟩
abbrev y_Machine_keyOf : MethodName := ⟨"TraceMachines$Machine", "keyOf", "(LTraceMachines$Tree;I)I"⟩
abbrev y_Machine_placeOf : MethodName := ⟨"TraceMachines$Machine", "placeOf", "(I)I"⟩
abbrev y_Machine_gatherRanges : MethodName := ⟨"TraceMachines$Machine", "gatherRanges", "(LTraceMachines$Tree;)V"⟩
abbrev y_Machine_gatherFirsts : MethodName := ⟨"TraceMachines$Machine", "gatherFirsts", "()V"⟩
abbrev y_Machine_from : MethodName := ⟨"TraceMachines$Machine", "from", "(I)I"⟩
abbrev y_Machine_leavers : MethodName := ⟨"TraceMachines$Machine", "leavers", "(I)I"⟩
abbrev y_X_edge : MethodName := ⟨"TraceMachines", "edge", "(II)I"⟩
abbrev y_Machine_letter : MethodName := ⟨"TraceMachines$Machine", "letter", "(I)I"⟩
abbrev y_X_signOf : MethodName := ⟨"TraceMachines", "signOf", "(I)I"⟩
abbrev y_Machine_to : MethodName := ⟨"TraceMachines$Machine", "to", "(I)I"⟩
abbrev y_X_vague : MethodName := ⟨"TraceMachines", "vague", "(I)I"⟩
abbrev y_Machine_forks : MethodName := ⟨"TraceMachines$Machine", "forks", "(I)I"⟩
abbrev y_X_run : MethodName := ⟨"TraceMachines", "run", "(Z)I"⟩
abbrev y_X_slack : MethodName := ⟨"TraceMachines", "slack", "(Z)I"⟩
abbrev y_Machine_failsAt : MethodName := ⟨"TraceMachines$Machine", "failsAt", "(LTraceMachines$Traces;IILTraceMachines$StateSets;)I"⟩
abbrev y_Sets_clear : MethodName := ⟨"TraceMachines$StateSets", "clear", "()V"⟩
abbrev y_Sets_put : MethodName := ⟨"TraceMachines$StateSets", "put", "(III)V"⟩
abbrev y_Machine_goOn : MethodName := ⟨"TraceMachines$Machine", "goOn", "(LTraceMachines$StateSets;III)V"⟩
abbrev y_Sets_longAt : MethodName := ⟨"TraceMachines$StateSets", "longAt", "(III)J"⟩
abbrev y_Sets_lowest : MethodName := ⟨"TraceMachines$StateSets", "lowest", "(J)I"⟩
abbrev y_Long_bitCount : MethodName := ⟨"java/lang/Long", "bitCount", "(J)I"⟩
abbrev y_Sets_moveRow : MethodName := ⟨"TraceMachines$StateSets", "moveRow", "(II)V"⟩
abbrev y_Sets_isEmpty : MethodName := ⟨"TraceMachines$StateSets", "isEmpty", "(I)Z"⟩
abbrev y_Machine_takes : MethodName := ⟨"TraceMachines$Machine", "takes", "(LTraceMachines$StateSets;II)Z"⟩
abbrev y_Sets_size : MethodName := ⟨"TraceMachines$StateSets", "size", "(I)I"⟩
abbrev y_Sets_least : MethodName := ⟨"TraceMachines$StateSets", "least", "(I)I"⟩
abbrev y_X_ran : MethodName := ⟨"TraceMachines", "ran", "(I)I"⟩
abbrev y_X_cover : MethodName := ⟨"TraceMachines", "cover", "(I)I"⟩
abbrev y_Cover_find : MethodName := ⟨"TraceMachines$Cover", "find", "(LTraceMachines$Traces;LTraceMachines$Tree;LTraceMachines$Machine;)V"⟩
abbrev y_Cover_gather : MethodName := ⟨"TraceMachines$Cover", "gather", "(LTraceMachines$Traces;LTraceMachines$Tree;LTraceMachines$Machine;)V"⟩
abbrev y_Cover_leaveOutImplied : MethodName := ⟨"TraceMachines$Cover", "leaveOutImplied", "()V"⟩
abbrev y_Cover_isImplied : MethodName := ⟨"TraceMachines$Cover", "isImplied", "(II)Z"⟩
abbrev y_Cover_search : MethodName := ⟨"TraceMachines$Cover", "search", "(III)V"⟩
abbrev y_Cover_hardest : MethodName := ⟨"TraceMachines$Cover", "hardest", "(II)I"⟩
abbrev y_Integer_bitCount : MethodName := ⟨"java/lang/Integer", "bitCount", "(I)I"⟩
abbrev y_X_ways : MethodName := ⟨"TraceMachines", "ways", "(I)I"⟩
abbrev y_Words_waysOf : MethodName := ⟨"TraceMachines$Words", "waysOf", "(LTraceMachines$Traces;ILTraceMachines$Machine;)I"⟩
abbrev y_Words_stepWays : MethodName := ⟨"TraceMachines$Words", "stepWays", "(LTraceMachines$Machine;I)V"⟩
abbrev y_X_words : MethodName := ⟨"TraceMachines", "words", "(I)I"⟩
abbrev y_Words_number : MethodName := ⟨"TraceMachines$Words", "number", "(LTraceMachines$Machine;I)I"⟩
abbrev y_Sets_forget : MethodName := ⟨"TraceMachines$StateSets", "forget", "()V"⟩
abbrev y_Sets_indexOf : MethodName := ⟨"TraceMachines$StateSets", "indexOf", "(LTraceMachines$StateSets;I)I"⟩
abbrev y_Sets_hashOf : MethodName := ⟨"TraceMachines$StateSets", "hashOf", "(I)I"⟩
abbrev y_Sets_append : MethodName := ⟨"TraceMachines$StateSets", "append", "(LTraceMachines$StateSets;II)I"⟩
abbrev y_Sets_isLike : MethodName := ⟨"TraceMachines$StateSets", "isLike", "(ILTraceMachines$StateSets;I)Z"⟩
abbrev y_Words_goOn : MethodName := ⟨"TraceMachines$Words", "goOn", "(LTraceMachines$Machine;)Z"⟩
abbrev y_Machine_fan : MethodName := ⟨"TraceMachines$Machine", "fan", "(LTraceMachines$StateSets;IILTraceMachines$StateSets;)V"⟩
abbrev y_Words_comeTo : MethodName := ⟨"TraceMachines$Words", "comeTo", "(II)Z"⟩
abbrev y_Words_takenNext : MethodName := ⟨"TraceMachines$Words", "takenNext", "(LTraceMachines$Machine;)I"⟩
abbrev y_X_apart : MethodName := ⟨"TraceMachines", "apart", "(III)I"⟩
abbrev y_Parting_isOf : MethodName := ⟨"TraceMachines$Parting", "isOf", "(II)Z"⟩
abbrev y_Parting_find : MethodName := ⟨"TraceMachines$Parting", "find", "(LTraceMachines$Machine;LTraceMachines$Machine;)V"⟩
abbrev y_Parting_begin : MethodName := ⟨"TraceMachines$Parting", "begin", "(LTraceMachines$Machine;LTraceMachines$Machine;)V"⟩
abbrev y_Parting_spell : MethodName := ⟨"TraceMachines$Parting", "spell", "(I)V"⟩
abbrev y_Parting_goOn : MethodName := ⟨"TraceMachines$Parting", "goOn", "(LTraceMachines$Machine;LTraceMachines$Machine;I)Z"⟩
abbrev y_Parting_setOf : MethodName := ⟨"TraceMachines$Parting", "setOf", "(II)V"⟩
abbrev y_X_walk : MethodName := ⟨"TraceMachines", "walk", "(II)I"⟩
abbrev y_Words_draw : MethodName := ⟨"TraceMachines$Words", "draw", "(LTraceMachines$Machine;I)I"⟩
abbrev y_X_rule : MethodName := ⟨"TraceMachines", "rule", "(IIII)I"⟩
abbrev y_X_isKind : MethodName := ⟨"TraceMachines", "isKind", "(I)Z"⟩
abbrev y_Pair_tally : MethodName := ⟨"TraceMachines$Pair", "tally", "(LTraceMachines$Traces;III)V"⟩
abbrev y_Pair_look : MethodName := ⟨"TraceMachines$Pair", "look", "(LTraceMachines$Traces;III)V"⟩
abbrev y_Pair_forgetLooks : MethodName := ⟨"TraceMachines$Pair", "forgetLooks", "()V"⟩
abbrev y_Pair_meetX : MethodName := ⟨"TraceMachines$Pair", "meetX", "(I)V"⟩
abbrev y_Pair_meetY : MethodName := ⟨"TraceMachines$Pair", "meetY", "(I)V"⟩
abbrev y_Pair_isAsked : MethodName := ⟨"TraceMachines$Pair", "isAsked", "(I)Z"⟩
abbrev y_Pair_isSo : MethodName := ⟨"TraceMachines$Pair", "isSo", "(I)Z"⟩
abbrev y_X_rules : MethodName := ⟨"TraceMachines", "rules", "(III)I"⟩
abbrev y_Pair_stands : MethodName := ⟨"TraceMachines$Pair", "stands", "(LTraceMachines$Traces;IIII)Z"⟩
abbrev y_X_odd : MethodName := ⟨"TraceMachines", "odd", "(II)I"⟩
abbrev y_Odds_weigh : MethodName := ⟨"TraceMachines$Odds", "weigh", "(LTraceMachines$Traces;LTraceMachines$Tree;LTraceMachines$Machine;)V"⟩
abbrev y_Odds_meet : MethodName := ⟨"TraceMachines$Odds", "meet", "(II)V"⟩
abbrev y_Odds_placeOf : MethodName := ⟨"TraceMachines$Odds", "placeOf", "(I)I"⟩
abbrev y_Odds_isOdder : MethodName := ⟨"TraceMachines$Odds", "isOdder", "(II)Z"⟩
abbrev y_X_oddest : MethodName := ⟨"TraceMachines", "oddest", "(I)I"⟩
abbrev y_X_held : MethodName := ⟨"TraceMachines", "held", "(IIZ)I"⟩
abbrev y_X_foldOthers : MethodName := ⟨"TraceMachines", "foldOthers", "(II)V"⟩
abbrev y_X_takenByOthers : MethodName := ⟨"TraceMachines", "takenByOthers", "(IZ)Z"⟩
abbrev y_X_fit : MethodName := ⟨"TraceMachines", "fit", "(II)I"⟩
abbrev y_X_fitting : MethodName := ⟨"TraceMachines", "fitting", "(IZ)I"⟩
abbrev y_X_best : MethodName := ⟨"TraceMachines", "best", "(I)I"⟩
abbrev y_X_keep : MethodName := ⟨"TraceMachines", "keep", "(I)Z"⟩
abbrev y_X_again : MethodName := ⟨"TraceMachines", "again", "(I)Z"⟩
abbrev y_X_count : MethodName := ⟨"TraceMachines", "count", "(I)I"⟩
abbrev y_Traces_allCalls : MethodName := ⟨"TraceMachines$Traces", "allCalls", "()I"⟩
abbrev y_Machine_finalStates : MethodName := ⟨"TraceMachines$Machine", "finalStates", "()I"⟩
abbrev y_X_call : MethodName := ⟨"TraceMachines", "call", "(III)I"⟩
abbrev y_Throwable_init1 : MethodName := ⟨"java/lang/Throwable", "<init>", "()V"⟩
abbrev y_NSEE_init : MethodName := ⟨"java/util/NoSuchElementException", "<init>", "(Ljava/lang/String;)V"⟩
abbrev y_RtE_init : MethodName := ⟨"java/lang/RuntimeException", "<init>", "(Ljava/lang/String;)V"⟩
abbrev y_Exc_init : MethodName := ⟨"java/lang/Exception", "<init>", "(Ljava/lang/String;)V"⟩
abbrev y_Throwable_init2 : MethodName := ⟨"java/lang/Throwable", "<init>", "(Ljava/lang/String;)V"⟩
abbrev y_Model_thrown : MethodName := ⟨"TraceMachinesModel", "thrown", "()I"⟩
abbrev y_Model_init : MethodName := ⟨"TraceMachinesModel", "<init>", "()V"⟩
abbrev y_Model_sign : MethodName := ⟨"TraceMachinesModel", "sign", "(I)I"⟩
abbrev y_Model_end : MethodName := ⟨"TraceMachinesModel", "end", "(I)Z"⟩
abbrev y_Model_in : MethodName := ⟨"TraceMachinesModel", "in", "(JJJ)Z"⟩
abbrev y_Model_traces : MethodName := ⟨"TraceMachinesModel", "traces", "()I"⟩
abbrev y_Model_readTrace : MethodName := ⟨"TraceMachinesModel", "readTrace", "()V"⟩
abbrev y_Model_next : MethodName := ⟨"TraceMachinesModel", "next", "()I"⟩
abbrev y_Model_wrong : MethodName := ⟨"TraceMachinesModel", "wrong", "()V"⟩
abbrev y_Model_readCalls : MethodName := ⟨"TraceMachinesModel", "readCalls", "()V"⟩
abbrev y_Model_isDigitHere : MethodName := ⟨"TraceMachinesModel", "isDigitHere", "()Z"⟩
abbrev y_Model_endsReading : MethodName := ⟨"TraceMachinesModel", "endsReading", "()V"⟩
abbrev y_Model_remember : MethodName := ⟨"TraceMachinesModel", "remember", "()V"⟩
abbrev y_Model_many : MethodName := ⟨"TraceMachinesModel", "many", "()I"⟩
abbrev y_Model_drop : MethodName := ⟨"TraceMachinesModel", "drop", "(I)I"⟩
abbrev y_Model_isTrace : MethodName := ⟨"TraceMachinesModel", "isTrace", "(I)Z"⟩
abbrev y_Model_depth : MethodName := ⟨"TraceMachinesModel", "depth", "(I)I"⟩
abbrev y_Model_change : MethodName := ⟨"TraceMachinesModel", "change", "(III)I"⟩
abbrev y_Model_margin : MethodName := ⟨"TraceMachinesModel", "margin", "(I)I"⟩
abbrev y_Model_undo : MethodName := ⟨"TraceMachinesModel", "undo", "()I"⟩
abbrev y_Model_call : MethodName := ⟨"TraceMachinesModel", "call", "(III)I"⟩
abbrev y_Model_calls : MethodName := ⟨"TraceMachinesModel", "calls", "(I)I"⟩
abbrev y_Model_lay1 : MethodName := ⟨"TraceMachinesModel", "lay", "()V"⟩
abbrev y_Model_lay2 : MethodName := ⟨"TraceMachinesModel", "lay", "(III)V"⟩
abbrev y_Model_layPrefixes : MethodName := ⟨"TraceMachinesModel", "layPrefixes", "(II)V"⟩
abbrev y_Model_newPrefix : MethodName := ⟨"TraceMachinesModel", "newPrefix", "(I)V"⟩
abbrev y_Model_letterAt : MethodName := ⟨"TraceMachinesModel", "letterAt", "(II)I"⟩
abbrev y_Model_layStates : MethodName := ⟨"TraceMachinesModel", "layStates", "(III)V"⟩
abbrev y_Model_pathOf : MethodName := ⟨"TraceMachinesModel", "pathOf", "(III)I"⟩
abbrev y_Model_rowBehind : MethodName := ⟨"TraceMachinesModel", "rowBehind", "(III)I"⟩
abbrev y_Model_addFollow : MethodName := ⟨"TraceMachinesModel", "addFollow", "(II)V"⟩
abbrev y_Model_areAlike : MethodName := ⟨"TraceMachinesModel", "areAlike", "(II)Z"⟩
abbrev y_Model_addEdge : MethodName := ⟨"TraceMachinesModel", "addEdge", "(III)V"⟩
abbrev y_Model_stateAt : MethodName := ⟨"TraceMachinesModel", "stateAt", "(III)I"⟩
abbrev y_Model_placeOf : MethodName := ⟨"TraceMachinesModel", "placeOf", "(IIII)I"⟩
abbrev y_Model_edgeAt : MethodName := ⟨"TraceMachinesModel", "edgeAt", "(III)I"⟩
abbrev y_Model_valueAt : MethodName := ⟨"TraceMachinesModel", "valueAt", "(II)I"⟩
abbrev y_Model_state : MethodName := ⟨"TraceMachinesModel", "state", "(II)I"⟩
abbrev y_Model_isFinal : MethodName := ⟨"TraceMachinesModel", "isFinal", "(II)Z"⟩
abbrev y_Model_leaving : MethodName := ⟨"TraceMachinesModel", "leaving", "(IZ)I"⟩
abbrev y_Model_edge : MethodName := ⟨"TraceMachinesModel", "edge", "(II)I"⟩
abbrev y_Model_vague : MethodName := ⟨"TraceMachinesModel", "vague", "(I)I"⟩
abbrev y_Model_areTwo : MethodName := ⟨"TraceMachinesModel", "areTwo", "(II)Z"⟩
abbrev y_Model_haveCommon : MethodName := ⟨"TraceMachinesModel", "haveCommon", "(II)Z"⟩
abbrev y_Model_run : MethodName := ⟨"TraceMachinesModel", "run", "(Z)I"⟩
abbrev y_Model_runs : MethodName := ⟨"TraceMachinesModel", "runs", "(IZ)I"⟩
abbrev y_Model_start : MethodName := ⟨"TraceMachinesModel", "start", "(I)V"⟩
abbrev y_Model_isEmpty : MethodName := ⟨"TraceMachinesModel", "isEmpty", "([JI)Z"⟩
abbrev y_Model_step : MethodName := ⟨"TraceMachinesModel", "step", "(I[JIIIZ)V"⟩
abbrev y_Model_has : MethodName := ⟨"TraceMachinesModel", "has", "([JII)Z"⟩
abbrev y_Model_takes : MethodName := ⟨"TraceMachinesModel", "takes", "(I[JI)Z"⟩
abbrev y_Model_ran : MethodName := ⟨"TraceMachinesModel", "ran", "(I)I"⟩
abbrev y_Model_cover : MethodName := ⟨"TraceMachinesModel", "cover", "(I)I"⟩
abbrev y_Model_layGoes : MethodName := ⟨"TraceMachinesModel", "layGoes", "()V"⟩
abbrev y_Model_ones : MethodName := ⟨"TraceMachinesModel", "ones", "(I)I"⟩
abbrev y_Model_coversAll : MethodName := ⟨"TraceMachinesModel", "coversAll", "(I)Z"⟩
abbrev y_Model_ways : MethodName := ⟨"TraceMachinesModel", "ways", "(I)I"⟩
abbrev y_Model_stepWays : MethodName := ⟨"TraceMachinesModel", "stepWays", "(I)V"⟩
abbrev y_Model_words : MethodName := ⟨"TraceMachinesModel", "words", "(I)I"⟩
abbrev y_Model_nextLevel : MethodName := ⟨"TraceMachinesModel", "nextLevel", "()V"⟩
abbrev y_Model_addNext : MethodName := ⟨"TraceMachinesModel", "addNext", "(I)V"⟩
abbrev y_Model_areSame : MethodName := ⟨"TraceMachinesModel", "areSame", "([JI[JI)Z"⟩
abbrev y_Model_apart : MethodName := ⟨"TraceMachinesModel", "apart", "(III)I"⟩
abbrev y_Model_partsAt : MethodName := ⟨"TraceMachinesModel", "partsAt", "()I"⟩
abbrev y_Model_addTwo : MethodName := ⟨"TraceMachinesModel", "addTwo", "(II)V"⟩
abbrev y_Model_stepTwo : MethodName := ⟨"TraceMachinesModel", "stepTwo", "(II)V"⟩
abbrev y_Model_isKnown : MethodName := ⟨"TraceMachinesModel", "isKnown", "()Z"⟩
abbrev y_Model_walk : MethodName := ⟨"TraceMachinesModel", "walk", "(II)I"⟩
abbrev y_Model_rule : MethodName := ⟨"TraceMachinesModel", "rule", "(IIII)I"⟩
abbrev y_Model_isLetter : MethodName := ⟨"TraceMachinesModel", "isLetter", "(I)Z"⟩
abbrev y_Model_asked : MethodName := ⟨"TraceMachinesModel", "asked", "(IIIZ)I"⟩
abbrev y_Model_isAsked : MethodName := ⟨"TraceMachinesModel", "isAsked", "(IIII)Z"⟩
abbrev y_Model_hasLetter : MethodName := ⟨"TraceMachinesModel", "hasLetter", "(II)Z"⟩
abbrev y_Model_isSo : MethodName := ⟨"TraceMachinesModel", "isSo", "(IIII)Z"⟩
abbrev y_Model_lastOf : MethodName := ⟨"TraceMachinesModel", "lastOf", "(II)I"⟩
abbrev y_Model_firstOf : MethodName := ⟨"TraceMachinesModel", "firstOf", "(II)I"⟩
abbrev y_Model_rightBehind : MethodName := ⟨"TraceMachinesModel", "rightBehind", "(III)Z"⟩
abbrev y_Model_howOften : MethodName := ⟨"TraceMachinesModel", "howOften", "(II)I"⟩
abbrev y_Model_inTurn : MethodName := ⟨"TraceMachinesModel", "inTurn", "(III)Z"⟩
abbrev y_Model_rules : MethodName := ⟨"TraceMachinesModel", "rules", "(III)I"⟩
abbrev y_Model_odd : MethodName := ⟨"TraceMachinesModel", "odd", "(II)I"⟩
abbrev y_Model_layWeak : MethodName := ⟨"TraceMachinesModel", "layWeak", "()V"⟩
abbrev y_Model_placeAmong : MethodName := ⟨"TraceMachinesModel", "placeAmong", "(I)I"⟩
abbrev y_Model_isAhead : MethodName := ⟨"TraceMachinesModel", "isAhead", "(II)Z"⟩
abbrev y_Model_oddest : MethodName := ⟨"TraceMachinesModel", "oddest", "(I)I"⟩
abbrev y_Model_held : MethodName := ⟨"TraceMachinesModel", "held", "(IIZ)I"⟩
abbrev y_Model_isTakenBy : MethodName := ⟨"TraceMachinesModel", "isTakenBy", "(IIZ)Z"⟩
abbrev y_Model_takeTrace : MethodName := ⟨"TraceMachinesModel", "takeTrace", "(I)V"⟩
abbrev y_Model_fit : MethodName := ⟨"TraceMachinesModel", "fit", "(II)I"⟩
abbrev y_Model_fitBy : MethodName := ⟨"TraceMachinesModel", "fitBy", "(II)I"⟩
abbrev y_Model_best : MethodName := ⟨"TraceMachinesModel", "best", "(I)I"⟩
abbrev y_Model_keep : MethodName := ⟨"TraceMachinesModel", "keep", "(I)Z"⟩
abbrev y_Model_again : MethodName := ⟨"TraceMachinesModel", "again", "(I)Z"⟩
abbrev y_Model_count : MethodName := ⟨"TraceMachinesModel", "count", "(I)I"⟩
abbrev y_Model_callsOfAll : MethodName := ⟨"TraceMachinesModel", "callsOfAll", "()I"⟩
abbrev y_Model_finals : MethodName := ⟨"TraceMachinesModel", "finals", "()I"⟩
abbrev zNl : List (String × Nat × MethodName × String) := [("TraceMachines", 11, ⟨"TraceMachines$Text", "<init>", "()V"⟩, "TraceMachines"), ("TraceMachines", 18, ⟨"TraceMachines$Traces", "<init>", "()V"⟩, "TraceMachines"), ("TraceMachines", 35, ⟨"TraceMachines$Tree", "<init>", "()V"⟩, "TraceMachines"), ("TraceMachines", 42, ⟨"TraceMachines$Follows", "<init>", "()V"⟩, "TraceMachines"), ("TraceMachines", 56, ⟨"TraceMachines$Machine", "<init>", "()V"⟩, "TraceMachines"), ("TraceMachines", 76, ⟨"TraceMachines$Words", "<init>", "()V"⟩, "TraceMachines"), ("TraceMachines", 83, ⟨"TraceMachines$Parting", "<init>", "()V"⟩, "TraceMachines"), ("TraceMachines", 90, ⟨"TraceMachines$Cover", "<init>", "()V"⟩, "TraceMachines"), ("TraceMachines", 97, ⟨"TraceMachines$Pair", "<init>", "()V"⟩, "TraceMachines"), ("TraceMachines", 104, ⟨"TraceMachines$Odds", "<init>", "()V"⟩, "TraceMachines"), ("TraceMachines$Text", 29, ⟨"TraceMachines", "isLetter", "(I)Z"⟩, "TraceMachines")]
end
section
/-! The layer of contracts: worlds are lists of cells, every contract is given all words of zW; the array classes are G.2 0 .. 6. -/
abbrev zG : Type := va_G × (Nat → ClassId)
abbrev zT (G : zG) : List (ClassId × FieldType) := [(G.2 0, .int), (G.2 1, .long), (G.2 2, .char), (G.2 3, .byte), (G.2 4, .boolean), (G.2 5, .object "TraceMachines$Traces"), (G.2 6, .object "TraceMachines$Machine")]
def zN (U : State) : Prop := (∀ q ∈ zNl, va_Nw (.methodLinkNest q.1 q.2.1 q.2.2.1 q.2.2.2) U) ∧ va_AO "TraceMachines$Traces" U ∧ va_AO "TraceMachines$Machine" U
theorem zN.warm {s U : State} (hW : s.WarmedH U.vm) (h : zN s) : zN U := ⟨fun q hq => va_Nw.warmM hW (h.1 q hq), h.2.1.moved hW.alike, h.2.2.moved hW.alike⟩
theorem zN.same {u U : State} (e : u.vm = U.vm) (h : zN u) : zN U := ⟨fun q hq => va_Nw.same rfl e (h.1 q hq), h.2.1.moved (e ▸ Vm.Alike.refl _), h.2.2.moved (e ▸ Vm.Alike.refl _)⟩
/-- a method's start: its world w, at a heap of sz cells -/
def zP (G : zG) (w : va_W) (sz : Nat) (U : State) : Prop := U.heap.size = sz ∧ va_P G.1 classes w U.heap ∧ va_D (fun _ => True) w ∧ va_K G.1 classes (zT G) U ∧ zN U
/-- a method's end: its answer and the world that it leaves -/
def zQ (G : zG) (post : Option Value → va_W → Prop) (A : Nat → Prop) : Array Value → State → Outcome → State → Prop := fun _ st oc t => (∃ (v : Option Value) (w : va_W), oc = .returned v ∧ post v w ∧ va_P G.1 classes w t.heap ∧ va_D A w) ∧ va_F A st t
/-- the contract of a method: from the world w, with the arguments av, it returns, and post holds of its answer and of the world behind it -/
def zM (l : Launch) (G : zG) (y : MethodName) (cc : ByteArray) (maxL : Nat) (ret : Option FieldType) (rm : Room) (av : List Value) (w : va_W) (post : Option Value → va_W → Prop) : Prop :=
  ∀ sz : Nat, Met l y (.code y cc maxL ret :: zW) rm (va_Pc av (zP G w sz)) (zQ G post (va_A w sz)) rm.cells rm.slots (va_A w sz)
/-- what a walk has at hand, whatever it does -/
def zC (p : Program) (s : State) (m : MethodId) (args : Array Value) (meth : Method) (c : Code) (cc : ByteArray) (maxL : Nat) (own : String) (G : zG) : Prop :=
  p.tables.exec = Jvm.exec ∧ c.code = cc ∧ c.maxLocals = maxL ∧ s.vm.findClass own = some m.cls ∧ (∀ w ∈ zW, w.before args s = true) ∧ va_K G.1 classes (zT G) s ∧ zN s ∧ meth.locks = false
theorem z_start {l : Launch} {G : zG} {y : MethodName} {cc : ByteArray} {maxL : Nat} {ret : Option FieldType} {rm : Room} {av : List Value} {w : va_W} {post : Option Value → va_W → Prop}
    (hy : plainName y.cls = true) (hav : (lg_sl av).length ≤ maxL)
    (body : ∀ (p : Program) (e : Env) (s : State) (m : MethodId) (below : List Frame) (meth : Method) (c : Code) (A : Nat → Prop), zC p s m av.toArray meth c cc maxL y.cls G → meth.sig.returnType = ret → meth.name = y.name →
      (∀ q : Nat, s.heap.size ≤ q → A q) → va_P G.1 classes w s.heap → va_D A w → va_S A s.heap s.heap [] → ∀ ls : Array Slot, lv_has ls maxL (lv_args 0 av) →
      W p l e rm s m av.toArray below meth c s.heap [] 0 0 (MQ below (zQ G post A) av.toArray s rm.cells rm.slots A) (F0 m 0 ls [])) : zM l G y cc maxL ret rm av w post := by
  intro sz
  refine Met.ofW (cc := cc) (maxL := maxL) (ret := ret) hy rfl ?_
  intro p e s m args below meth c s₁ B hml hv
  obtain ⟨rfl, hsz, hP, hD0, hK, hN⟩ := hv
  subst hsz
  rw [lg_entry_eq]
  have hts := atoms_spec (ws := .code y cc maxL ret :: zW) B.pre
  exact body p e s m below meth c _ ⟨B.exec, B.bytes, hml, findClass_of_methodNamed B.named, fun w h => hts w (List.mem_cons_of_mem _ h), hK, hN, B.notSynchronized⟩ B.returns (name_of_methodNamed B.named B.method).1 (fun q h => Or.inr h) hP hD0.self va_S.rf _ (lv_entry av hav)
section ZRET
variable {p : Program} {l : Launch} {e : Env} {R : Room} {s : State} {m : MethodId} {args : Array Value} {below : List Frame} {meth : Method} {c : Code} {H : Heap} {locs : List Loc} {cells slots mc ms : Nat} {cc : ByteArray} {pc : Nat} {ls : Array Slot}
variable {G : zG} {post : Option Value → va_W → Prop} {A : Nat → Prop} {w : va_W}
theorem z_post {v : Option Value} (hP : va_P G.1 classes w H) (hD : va_D A w) (hS : va_S A s.heap H locs) (hp : post v w) : ∀ t : State, t.heap = H → s.WarmedH t.vm → zQ G post A args s (.returned v) t := fun t ht _ => ⟨⟨v, w, rfl, hp, by rw [ht]; exact hP, hD⟩, hS.F ht⟩
theorem z_iret {v : Int32} (hx : p.tables.exec = Jvm.exec) (hb : c.code = cc) (hr : meth.sig.returnType = some .int) (hlocks : meth.locks = false) (hP : va_P G.1 classes w H) (hD : va_D A w) (hS : va_S A s.heap H locs) (hc : cells ≤ mc) (hs : slots ≤ ms) (hdg : decode cc pc = .ok (.ireturn, 1)) (hp : post (some (.int v)) w) : W p l e R s m args below meth c H locs cells slots (MQ below (zQ G post A) args s mc ms A) (F0 m pc ls [.int v]) := by
  refine W.widen hc hs ?_
  exact W.iret hx hb hr (z_post hP hD hS hp) hS.2.2 hdg
theorem z_zret {v : Int32} (hx : p.tables.exec = Jvm.exec) (hb : c.code = cc) (hr : meth.sig.returnType = some .boolean) (hlocks : meth.locks = false) (hv : narrow .boolean (.int v) = .int v) (hP : va_P G.1 classes w H) (hD : va_D A w) (hS : va_S A s.heap H locs) (hc : cells ≤ mc) (hs : slots ≤ ms) (hdg : decode cc pc = .ok (.ireturn, 1)) (hp : post (some (.int v)) w) : W p l e R s m args below meth c H locs cells slots (MQ below (zQ G post A) args s mc ms A) (F0 m pc ls [.int v]) := by
  refine W.widen hc hs ?_
  exact W.zret hx hb hr hv (z_post hP hD hS hp) hS.2.2 hdg
theorem z_lret {v : Int64} (hx : p.tables.exec = Jvm.exec) (hb : c.code = cc) (hr : meth.sig.returnType = some .long) (hlocks : meth.locks = false) (hP : va_P G.1 classes w H) (hD : va_D A w) (hS : va_S A s.heap H locs) (hc : cells ≤ mc) (hs : slots ≤ ms) (hdg : decode cc pc = .ok (.lreturn, 1)) (hp : post (some (.long v)) w) : W p l e R s m args below meth c H locs cells slots (MQ below (zQ G post A) args s mc ms A) (F0 m pc ls [.long v]) := by
  refine W.widen hc hs ?_
  exact W.lret hx hb hr (z_post hP hD hS hp) hS.2.2 hdg
theorem z_vret (hx : p.tables.exec = Jvm.exec) (hb : c.code = cc) (hr : meth.sig.returnType = none) (hlocks : meth.locks = false) (hP : va_P G.1 classes w H) (hD : va_D A w) (hS : va_S A s.heap H locs) (hc : cells ≤ mc) (hs : slots ≤ ms) (hdg : decode cc pc = .ok (.return_, 1)) (hp : post none w) : W p l e R s m args below meth c H locs cells slots (MQ below (zQ G post A) args s mc ms A) (F0 m pc ls []) := by
  refine W.widen hc hs ?_
  exact W.vret hx hb hr (z_post hP hD hS hp) hS.2.2 hdg
theorem z_aret {a : Nat} {nm : String} (hx : p.tables.exec = Jvm.exec) (hb : c.code = cc) (hr : meth.sig.returnType = some (.object nm)) (hlocks : meth.locks = false) (hP : va_P G.1 classes w H) (hD : va_D A w) (hS : va_S A s.heap H locs) (hc : cells ≤ mc) (hs : slots ≤ ms) (hdg : decode cc pc = .ok (.areturn, 1)) (hp : post (some (.ref a)) w) : W p l e R s m args below meth c H locs cells slots (MQ below (zQ G post A) args s mc ms A) (F0 m pc ls [.ref a]) := by
  refine W.widen hc hs ?_
  exact W.aret hx hb hr (Or.inl ⟨_, rfl⟩) (Or.inr ⟨_, rfl⟩) (z_post hP hD hS hp) hS.2.2 hdg
end ZRET
section ZCALL
variable {p : Program} {l : Launch} {e : Env} {R : Room} {s : State} {m : MethodId} {args : Array Value} {below : List Frame} {meth : Method} {c : Code} {H : Heap} {locs : List Loc} {cells slots : Nat} {Q : State → Prop} {cc : ByteArray} {pc nL : Nat} {ls : Array Slot}
variable {G : zG} {post : Option Value → va_W → Prop} {A : Nat → Prop} {own : String} {y : MethodName} {bytes : ByteArray} {maxL index n : Nat} {ret : Option FieldType} {rm : Room} {b : Nat} {As rest st0 : List Value} {ws wc wr : va_W} {H0 : Heap}
/-- behind a call, whatever kind it is -/
theorem z_on {av : List Value} (hr : va_Run p l e R s m args below meth c H locs cells slots rm.cells rm.slots (F0 m pc ls st0) rest (zQ G post (va_A wc H.size) av.toArray) (va_A wc H.size)) (hP : va_P G.1 classes ws H) (hD : va_D A ws) (hS : va_S A H0 H locs) (hA : ∀ q, H0.size ≤ q → A q)
    (isC isR : List Nat) (hC : isC.map (fun i => ws[i]?) = wc.map some) (hR : isR.map (fun i => ws[i]?) = wr.map some) (hn : va_nd isR = true) (hdis : ∀ i ∈ isR, i ∉ isC)
    (kk : ∀ (v : Option Value) (w1 : va_W) (H1 : Heap) (locs1 : List Loc), post v w1 → va_P G.1 classes (wr ++ w1) H1 → va_D A (wr ++ w1) → va_S A H0 H1 locs1 → W p l e R s m args below meth c H1 locs1 (cells + rm.cells) (slots + rm.slots) Q (F0 m (pc + 3) ls (v.toList ++ rest))) :
    W p l e R s m args below meth c H locs cells slots Q (F0 m pc ls st0) := by
  intro T hT X
  obtain ⟨v, st₀, t, T', L, h0, X', hL, e1, e2, ⟨⟨v', w1, hv, hp, hP1, hD1⟩, hz, hk⟩, st⟩ := hr T hT X
  cases hv
  rw [h0] at hz hk
  have hF := va_free (wc := wc) hD hS hA isC hC
  have hj := va_join hP hD isC isR hC hR hn hdis (fun q h1 h2 => by rw [e1]; exact hk q h1 h2) hF (H1 := T'.heap) (by rw [e1]; exact hP1) hD1
  obtain ⟨t2, a1, b1⟩ := kk v w1 T'.heap (locs ++ L) hp hj.1 hj.2
    ⟨Nat.le_trans hS.1 (by rw [e1]; exact hz), fun q h1 h2 => by rw [e1, hk q (Nat.lt_of_lt_of_le h1 hS.1) (fun z => h2 (hF q z))]; exact hS.2.1 q h1 h2, fun q hq => by
      rcases List.mem_append.mp hq with h | h
      · exact hS.2.2 q h
      · exact hF _ (hL q h)⟩ T' rfl X'
  exact ⟨t2, st t2 a1, b1⟩
theorem z_pre {av : List Value} (hPc : va_P G.1 classes wc H) (hDc : va_D (fun _ => True) wc) (hK : va_K G.1 classes (zT G) s) (hN : zN s) : FrameBlind (va_Pc av (zP G wc H.size)) ∧ ∀ U : State, U.heap = H → s.WarmedH U.vm → va_Pc av (zP G wc H.size) av.toArray U :=
  ⟨fun a U g mk q => by
    obtain ⟨q0, q1, qP, qD, qK, qN⟩ := q
    exact ⟨q0, q1, qP, qD, va_K.moved (u := U) (U := U.calling g mk a) (Vm.Alike.refl U.vm) qK, qN.same rfl⟩,
   fun U hU hW => ⟨rfl, by rw [hU], by rw [hU]; exact hPc, hDc, va_K.moved hW.alike hK, hN.warm hW⟩⟩
theorem z_sub (hP : va_P G.1 classes ws H) (isC : List Nat) (hC : isC.map (fun i => ws[i]?) = wc.map some) : va_P G.1 classes wc H := by
  intro k q hk
  have h1 : (isC.map (fun i => ws[i]?))[k]? = some (some q) := by rw [hC, List.getElem?_map, hk]; rfl
  rw [List.getElem?_map] at h1
  cases hi : isC[k]? with
  | none => rw [hi] at h1; cases h1
  | some i => rw [hi] at h1; exact hP i q (Option.some.inj h1)
theorem z_callV (Z : zC p s m args meth c cc nL own G) (hM : zM l G y bytes maxL ret rm (.ref b :: As) wc post) (hl0 : ls.size = nL)
    (q1 : Cond.methodLink own index y ∈ zW) (q2 : Cond.instanceMethod y ∈ zW) (q3 : Cond.selects y.cls y y ∈ zW) (q4 : Cond.initialized y.cls ∈ zW) (q5 : Cond.code y bytes maxL ret ∈ zW)
    (hd : y.cls ≠ "java/lang/invoke/MethodHandle" ∧ y.cls ≠ "java/lang/invoke/VarHandle" ∧ (parseMethodDescriptor y.desc).map (fun d => d.parameters.length) = some As.length) (hR : rm.frames + 1 ≤ R.frames ∧ 8 + (maxL + 11) + rm.locals ≤ R.locals)
    (hf : cells + rm.cells ≤ R.cells ∧ slots + rm.slots ≤ R.slots) (hst : st0 = As.reverse ++ .ref b :: rest) (hroom : (rest.map fun v => v.category).sum ≤ 8) (hdg : decode cc pc = .ok (.invokevirtual index, 3))
    (hP : va_P G.1 classes ws H) (hD : va_D A ws) (hS : va_S A H0 H locs) (hA : ∀ q, H0.size ≤ q → A q)
    (q0 ci : Nat) {fs : List Value} {rc : vw_C} (he : ws[q0]? = some (b, .inr (ci, fs))) (hc : classes[ci]? = some rc) (hcy : rc.1 = y.cls)
    (isC isR : List Nat) (hC : isC.map (fun i => ws[i]?) = wc.map some) (hRr : isR.map (fun i => ws[i]?) = wr.map some) (hn0 : va_nd isC = true) (hn : va_nd isR = true) (hdis : ∀ i ∈ isR, i ∉ isC)
    (kk : ∀ (v : Option Value) (w1 : va_W) (H1 : Heap) (locs1 : List Loc), post v w1 → va_P G.1 classes (wr ++ w1) H1 → va_D A (wr ++ w1) → va_S A H0 H1 locs1 → W p l e R s m args below meth c H1 locs1 (cells + rm.cells) (slots + rm.slots) Q (F0 m (pc + 3) ls (v.toList ++ rest))) :
    W p l e R s m args below meth c H locs cells slots Q (F0 m pc ls st0) := by
  obtain ⟨hx, hb, hml, hown, hts, hK, hN, -⟩ := Z
  have hPc := z_sub hP isC hC
  have hDc : va_D (fun _ => True) wc := (hD.sub isC hn0 hC).weaken (fun _ _ _ _ => trivial)
  have hpre := z_pre (av := .ref b :: As) hPc hDc hK hN
  refine z_on (av := .ref b :: As) (va_runV (C := y.cls) (As := As) (rest := rest) ⟨hx, hb, hml, hown, hts⟩ (hM H.size) (cwV (bytes := bytes) (maxL := maxL) (ret := ret) As.length hts (zW_good _ ?_) rfl rfl rfl ⟨rfl, hd⟩ hR) ⟨hpre.1, ?_, hpre.2⟩ rfl rfl hl0 hst (lv_room hroom) hdg hf) hP hD hS hA isC isR hC hRr hn hdis kk
  · intro w hw
    rcases List.mem_append.mp hw with h | h
    · rcases List.mem_cons.mp h with rfl | h
      · exact q1
      · rcases List.mem_cons.mp h with rfl | h
        · exact q2
        · rcases List.mem_cons.mp h with rfl | h
          · exact q3
          · rcases List.mem_cons.mp h with rfl | h
            · exact q4
            · cases h
    · rcases List.mem_cons.mp h with rfl | h
      · exact q5
      · exact h
  · have h := va_recv hK hP hc he
    rw [hcy] at h
    exact h
end ZCALL
end
section
section ZCALL2
variable {p : Program} {l : Launch} {e : Env} {R : Room} {s : State} {m : MethodId} {args : Array Value} {below : List Frame} {meth : Method} {c : Code} {H : Heap} {locs : List Loc} {cells slots : Nat} {Q : State → Prop} {cc : ByteArray} {pc nL : Nat} {ls : Array Slot}
variable {G : zG} {post : Option Value → va_W → Prop} {A : Nat → Prop} {own : String} {y : MethodName} {bytes : ByteArray} {maxL index n : Nat} {ret : Option FieldType} {rm : Room} {b : Nat} {As rest st0 : List Value} {ws wc wr : va_W} {H0 : Heap}
theorem z_callS (Z : zC p s m args meth c cc nL own G) (hM : zM l G y bytes maxL ret rm As wc post) (hl0 : ls.size = nL)
    (q1 : Cond.methodLink own index y ∈ zW) (q2 : Cond.static y ∈ zW) (q4 : Cond.initialized y.cls ∈ zW) (q5 : Cond.code y bytes maxL ret ∈ zW)
    (hd : y.cls ≠ "java/lang/invoke/MethodHandle" ∧ y.cls ≠ "java/lang/invoke/VarHandle" ∧ (parseMethodDescriptor y.desc).map (fun d => d.parameters.length) = some As.length) (hR : rm.frames + 1 ≤ R.frames ∧ 8 + (maxL + 11) + rm.locals ≤ R.locals)
    (hf : cells + rm.cells ≤ R.cells ∧ slots + rm.slots ≤ R.slots) (hst : st0 = As.reverse ++ rest) (hroom : (rest.map fun v => v.category).sum ≤ 8) (hdg : decode cc pc = .ok (.invokestatic index, 3))
    (hP : va_P G.1 classes ws H) (hD : va_D A ws) (hS : va_S A H0 H locs) (hA : ∀ q, H0.size ≤ q → A q)
    (isC isR : List Nat) (hC : isC.map (fun i => ws[i]?) = wc.map some) (hRr : isR.map (fun i => ws[i]?) = wr.map some) (hn0 : va_nd isC = true) (hn : va_nd isR = true) (hdis : ∀ i ∈ isR, i ∉ isC)
    (kk : ∀ (v : Option Value) (w1 : va_W) (H1 : Heap) (locs1 : List Loc), post v w1 → va_P G.1 classes (wr ++ w1) H1 → va_D A (wr ++ w1) → va_S A H0 H1 locs1 → W p l e R s m args below meth c H1 locs1 (cells + rm.cells) (slots + rm.slots) Q (F0 m (pc + 3) ls (v.toList ++ rest))) :
    W p l e R s m args below meth c H locs cells slots Q (F0 m pc ls st0) := by
  obtain ⟨hx, hb, hml, hown, hts, hK, hN, -⟩ := Z
  have hPc := z_sub hP isC hC
  have hDc : va_D (fun _ => True) wc := (hD.sub isC hn0 hC).weaken (fun _ _ _ _ => trivial)
  have hpre := z_pre (av := As) hPc hDc hK hN
  refine z_on (av := As) (va_runS (As := As) (rest := rest) ⟨hx, hb, hml, hown, hts⟩ (hM H.size) (va_cwS (bytes := bytes) (maxL := maxL) (ret := ret) As.length hts (zW_good _ ?_) rfl rfl rfl hd hR) hpre rfl rfl hl0 hst (lv_room hroom) hdg hf) hP hD hS hA isC isR hC hRr hn hdis kk
  intro w hw
  rcases List.mem_append.mp hw with h | h
  · rcases List.mem_cons.mp h with rfl | h
    · exact q1
    · rcases List.mem_cons.mp h with rfl | h
      · exact q2
      · rcases List.mem_cons.mp h with rfl | h
        · exact q4
        · cases h
  · rcases List.mem_cons.mp h with rfl | h
    · exact q5
    · exact h
theorem z_words (q5 : Cond.code y bytes maxL ret ∈ zW) : ∀ w ∈ (Cond.code y bytes maxL ret :: zW), w ∈ zW := by
  intro w hw
  rcases List.mem_cons.mp hw with rfl | h
  · exact q5
  · exact h
theorem z_callI (Z : zC p s m args meth c cc nL own G) (hM : zM l G y bytes maxL none rm (.ref b :: As) wc post) (hl0 : ls.size = nL)
    (q1 : Cond.methodLink own index y ∈ zW) (q2 : Cond.instanceMethod y ∈ zW) (q4 : Cond.initialized y.cls ∈ zW) (q5 : Cond.code y bytes maxL none ∈ zW) (hin : y.name = "<init>")
    (hd : y.cls ≠ "java/lang/invoke/MethodHandle" ∧ y.cls ≠ "java/lang/invoke/VarHandle" ∧ (parseMethodDescriptor y.desc).map (fun d => d.parameters.length) = some As.length) (hR : rm.frames + 1 ≤ R.frames ∧ 8 + (maxL + 11) + rm.locals ≤ R.locals)
    (hf : cells + rm.cells ≤ R.cells ∧ slots + rm.slots ≤ R.slots) (hst : st0 = As.reverse ++ .ref b :: rest) (hroom : (rest.map fun v => v.category).sum ≤ 8) (hdg : decode cc pc = .ok (.invokespecial index, 3))
    (hP : va_P G.1 classes ws H) (hD : va_D A ws) (hS : va_S A H0 H locs) (hA : ∀ q, H0.size ≤ q → A q)
    (isC isR : List Nat) (hC : isC.map (fun i => ws[i]?) = wc.map some) (hRr : isR.map (fun i => ws[i]?) = wr.map some) (hn0 : va_nd isC = true) (hn : va_nd isR = true) (hdis : ∀ i ∈ isR, i ∉ isC)
    (kk : ∀ (v : Option Value) (w1 : va_W) (H1 : Heap) (locs1 : List Loc), post v w1 → va_P G.1 classes (wr ++ w1) H1 → va_D A (wr ++ w1) → va_S A H0 H1 locs1 → W p l e R s m args below meth c H1 locs1 (cells + rm.cells) (slots + rm.slots) Q (F0 m (pc + 3) ls (v.toList ++ rest))) :
    W p l e R s m args below meth c H locs cells slots Q (F0 m pc ls st0) := by
  obtain ⟨hx, hb, hml, hown, hts, hK, hN, -⟩ := Z
  have hPc := z_sub hP isC hC
  have hDc : va_D (fun _ => True) wc := (hD.sub isC hn0 hC).weaken (fun _ _ _ _ => trivial)
  have hpre := z_pre (av := .ref b :: As) hPc hDc hK hN
  exact z_on (av := .ref b :: As) (va_runI (As := As) (rest := rest) ⟨hx, hb, hml, hown, hts⟩ (hM H.size) (cwI (bytes := bytes) (maxL := maxL) As.length hts (zW_good _ (z_words q5)) rfl rfl rfl (hts _ q4) (hts _ q1) (hts _ q2) hin hd hR) hpre rfl rfl hl0 hst (lv_room hroom) hdg hf) hP hD hS hA isC isR hC hRr hn hdis kk
theorem z_callIN {host : String} (Z : zC p s m args meth c cc nL own G) (hM : zM l G y bytes maxL none rm (.ref b :: As) wc post) (hl0 : ls.size = nL)
    (q1 : (own, index, y, host) ∈ zNl) (q2 : Cond.instanceMethod y ∈ zW) (q4 : Cond.initialized y.cls ∈ zW) (q5 : Cond.code y bytes maxL none ∈ zW) (hin : y.name = "<init>")
    (hd : y.cls ≠ "java/lang/invoke/MethodHandle" ∧ y.cls ≠ "java/lang/invoke/VarHandle" ∧ (parseMethodDescriptor y.desc).map (fun d => d.parameters.length) = some As.length) (hR : rm.frames + 1 ≤ R.frames ∧ 8 + (maxL + 11) + rm.locals ≤ R.locals)
    (hf : cells + rm.cells ≤ R.cells ∧ slots + rm.slots ≤ R.slots) (hst : st0 = As.reverse ++ .ref b :: rest) (hroom : (rest.map fun v => v.category).sum ≤ 8) (hdg : decode cc pc = .ok (.invokespecial index, 3))
    (hP : va_P G.1 classes ws H) (hD : va_D A ws) (hS : va_S A H0 H locs) (hA : ∀ q, H0.size ≤ q → A q)
    (isC isR : List Nat) (hC : isC.map (fun i => ws[i]?) = wc.map some) (hRr : isR.map (fun i => ws[i]?) = wr.map some) (hn0 : va_nd isC = true) (hn : va_nd isR = true) (hdis : ∀ i ∈ isR, i ∉ isC)
    (kk : ∀ (v : Option Value) (w1 : va_W) (H1 : Heap) (locs1 : List Loc), post v w1 → va_P G.1 classes (wr ++ w1) H1 → va_D A (wr ++ w1) → va_S A H0 H1 locs1 → W p l e R s m args below meth c H1 locs1 (cells + rm.cells) (slots + rm.slots) Q (F0 m (pc + 3) ls (v.toList ++ rest))) :
    W p l e R s m args below meth c H locs cells slots Q (F0 m pc ls st0) := by
  obtain ⟨hx, hb, hml, hown, hts, hK, hN, -⟩ := Z
  have hPc := z_sub hP isC hC
  have hDc : va_D (fun _ => True) wc := (hD.sub isC hn0 hC).weaken (fun _ _ _ _ => trivial)
  have hpre := z_pre (av := .ref b :: As) hPc hDc hK hN
  exact z_on (av := .ref b :: As) (va_runIN (As := As) (rest := rest) ⟨hx, hb, hml, hown, hts⟩ (hM H.size) ⟨va_cnB (bytes := bytes) (maxL := maxL) (ret := none) As.length hts (zW_good _ (z_words q5)) rfl rfl rfl (hN.1 _ q1) (hts _ q4) hd hR, hin, hts _ q2⟩ hpre rfl rfl hl0 hst (lv_room hroom) hdg hf) hP hD hS hA isC isR hC hRr hn hdis kk
theorem z_callSN {host : String} (Z : zC p s m args meth c cc nL own G) (hM : zM l G y bytes maxL ret rm As wc post) (hl0 : ls.size = nL)
    (q1 : (own, index, y, host) ∈ zNl) (q2 : Cond.static y ∈ zW) (q4 : Cond.initialized y.cls ∈ zW) (q5 : Cond.code y bytes maxL ret ∈ zW)
    (hd : y.cls ≠ "java/lang/invoke/MethodHandle" ∧ y.cls ≠ "java/lang/invoke/VarHandle" ∧ (parseMethodDescriptor y.desc).map (fun d => d.parameters.length) = some As.length) (hR : rm.frames + 1 ≤ R.frames ∧ 8 + (maxL + 11) + rm.locals ≤ R.locals)
    (hf : cells + rm.cells ≤ R.cells ∧ slots + rm.slots ≤ R.slots) (hst : st0 = As.reverse ++ rest) (hroom : (rest.map fun v => v.category).sum ≤ 8) (hdg : decode cc pc = .ok (.invokestatic index, 3))
    (hP : va_P G.1 classes ws H) (hD : va_D A ws) (hS : va_S A H0 H locs) (hA : ∀ q, H0.size ≤ q → A q)
    (isC isR : List Nat) (hC : isC.map (fun i => ws[i]?) = wc.map some) (hRr : isR.map (fun i => ws[i]?) = wr.map some) (hn0 : va_nd isC = true) (hn : va_nd isR = true) (hdis : ∀ i ∈ isR, i ∉ isC)
    (kk : ∀ (v : Option Value) (w1 : va_W) (H1 : Heap) (locs1 : List Loc), post v w1 → va_P G.1 classes (wr ++ w1) H1 → va_D A (wr ++ w1) → va_S A H0 H1 locs1 → W p l e R s m args below meth c H1 locs1 (cells + rm.cells) (slots + rm.slots) Q (F0 m (pc + 3) ls (v.toList ++ rest))) :
    W p l e R s m args below meth c H locs cells slots Q (F0 m pc ls st0) := by
  obtain ⟨hx, hb, hml, hown, hts, hK, hN, -⟩ := Z
  have hPc := z_sub hP isC hC
  have hDc : va_D (fun _ => True) wc := (hD.sub isC hn0 hC).weaken (fun _ _ _ _ => trivial)
  have hpre := z_pre (av := As) hPc hDc hK hN
  exact z_on (av := As) (va_runSN (As := As) (rest := rest) ⟨hx, hb, hml, hown, hts⟩ (hM H.size) ⟨va_cnB (bytes := bytes) (maxL := maxL) (ret := ret) As.length hts (zW_good _ (z_words q5)) rfl rfl rfl (hN.1 _ q1) (hts _ q4) hd hR, hts _ q2, trivial⟩ hpre rfl rfl hl0 hst (lv_room hroom) hdg hf) hP hD hS hA isC isR hC hRr hn hdis kk
/-- a new array of numbers: its class is the one that is known -/
theorem z_newa {atype : ArrayType} {ty : FieldType} (Z : zC p s m args meth c cc nL own G) (hP : va_P G.1 classes ws H) (hD : va_D A ws) (hS : va_S A H0 H locs) (hA : ∀ q, H0.size ≤ q → A q)
    (hw : Cond.arrayClass (newarray.typeOf atype) ∈ zW) (hty : newarray.typeOf atype = ty) (t0 : Nat) {cA0 : ClassId} (ht : (zT G)[t0]? = some (cA0, ty)) (hno : ∀ C, ty ≠ .object C)
    {n : Int32} {N' : Nat} {a0 : vp_A} (ha : ∀ cA : ClassId, vp_cell cA a0 = arrV cA N' (fun _ => defaultValue ty)) (hn : ¬ n < 0) (hN : n.toNatClampNeg = N') (hbytes : N' * componentBytes ty ≤ 536870912) (hcells : cells + 1 ≤ R.cells) (hslots : slots + N' ≤ R.slots) (hdg : decode cc pc = .ok (.newarray atype, 2))
    (kk : ∀ (q : Nat) (H1 : Heap), va_P G.1 classes (ws ++ [(q, .inl (cA0, a0))]) H1 → va_D A (ws ++ [(q, .inl (cA0, a0))]) → va_S A H0 H1 locs → W p l e R s m args below meth c H1 locs (cells + 1) (slots + N') Q (F0 m (pc + 2) ls (.ref q :: rest))) :
    W p l e R s m args below meth c H locs cells slots Q (F0 m pc ls (.int n :: rest)) := by
  obtain ⟨hx, hb, hml, hown, hts, hK, hN0, -⟩ := Z
  refine va_newa hx hb (hts _ hw) hty hK hP hD hS hA ha hn hN hbytes hcells hslots hdg (fun q cA H1 hK1 hP1 hD1 hS1 => ?_)
  have h1 := (hK.2 t0 _ ht).2
  have h2 := (hK1.2 (zT G).length (cA, ty) (by rw [List.getElem?_append_right (Nat.le_refl _), Nat.sub_self]; rfl)).2
  have e : cA = cA0 := by
    cases ty with
    | object C => exact absurd rfl (hno C)
    | _ => exact Option.some.inj (h2.symm.trans h1)
  subst e
  exact kk q H1 hP1 hD1 hS1
theorem z_newq {C : String} (Z : zC p s m args meth c cc nL own G) (hP : va_P G.1 classes ws H) (hD : va_D A ws) (hS : va_S A H0 H locs) (hA : ∀ q, H0.size ≤ q → A q)
    (hw : Cond.classLink own index C ∈ zW) (hao : va_AO C s) (t0 : Nat) {cA0 : ClassId} (ht : (zT G)[t0]? = some (cA0, .object C))
    {n : Int32} {N' : Nat} (hn : ¬ n < 0) (hN : n.toNatClampNeg = N') (hbytes : N' * 4 ≤ 536870912) (hcells : cells + 1 ≤ R.cells) (hslots : slots + N' ≤ R.slots) (hdg : decode cc pc = .ok (.anewarray index, 3))
    (kk : ∀ (q : Nat) (H1 : Heap), va_P G.1 classes (ws ++ [(q, .inl (cA0, N', .inr (.inr (.inr (.inr (fun _ => none))))))]) H1 → va_D A (ws ++ [(q, .inl (cA0, N', .inr (.inr (.inr (.inr (fun _ => none))))))]) → va_S A H0 H1 locs → W p l e R s m args below meth c H1 locs (cells + 1) (slots + N') Q (F0 m (pc + 3) ls (.ref q :: rest))) :
    W p l e R s m args below meth c H locs cells slots Q (F0 m pc ls (.int n :: rest)) := by
  obtain ⟨hx, hb, hml, hown, hts, hK, hN0, -⟩ := Z
  refine va_newq hx hb hown (hts _ hw) hao hK hP hD hS hA hn hN hbytes hcells hslots hdg (fun q cA H1 hK1 hP1 hD1 hS1 => ?_)
  obtain ⟨-, -, -, -, -, h1⟩ := (hK.2 t0 _ ht).2
  obtain ⟨-, -, -, -, -, h2⟩ := (hK1.2 (zT G).length (cA, .object C) (by rw [List.getElem?_append_right (Nat.le_refl _), Nat.sub_self]; rfl)).2
  have e : cA = cA0 := Option.some.inj (h2.symm.trans h1)
  subst e
  exact kk q H1 hP1 hD1 hS1
/-- a number or a reference on top of the stack under another name -/
theorem z_topi {x y : Int32} (h : x = y) (k : W p l e R s m args below meth c H locs cells slots Q (F0 m pc ls (.int y :: rest))) : W p l e R s m args below meth c H locs cells slots Q (F0 m pc ls (.int x :: rest)) := h ▸ k
theorem z_topl {x y : Int64} (h : x = y) (k : W p l e R s m args below meth c H locs cells slots Q (F0 m pc ls (.long y :: rest))) : W p l e R s m args below meth c H locs cells slots Q (F0 m pc ls (.long x :: rest)) := h ▸ k
theorem z_topv {x y : Value} (h : x = y) (k : W p l e R s m args below meth c H locs cells slots Q (F0 m pc ls (y :: rest))) : W p l e R s m args below meth c H locs cells slots Q (F0 m pc ls (x :: rest)) := h ▸ k
end ZCALL2
end
section
theorem z_in {i : Int32} {n : Nat} (h : decide (¬ (i < 0 ∨ n ≤ i.toNatClampNeg)) = true) : vp_in i n := of_decide_eq_true h
theorem d_Text_init_0 : decode prog_9_method_1_code 0 = .ok (.aload_n 0, 1) := by decide +kernel
theorem d_Text_init_1 : decode prog_9_method_1_code 1 = .ok (.invokespecial 3, 3) := by decide +kernel
theorem d_Text_init_4 : decode prog_9_method_1_code 4 = .ok (.aload_n 0, 1) := by decide +kernel
theorem d_Text_init_5 : decode prog_9_method_1_code 5 = .ok (.sipush 240, 3) := by decide +kernel
theorem d_Text_init_8 : decode prog_9_method_1_code 8 = .ok (.newarray .char, 2) := by decide +kernel
theorem d_Text_init_10 : decode prog_9_method_1_code 10 = .ok (.putfield 9, 3) := by decide +kernel
theorem d_Text_init_13 : decode prog_9_method_1_code 13 = .ok (.return_, 1) := by decide +kernel
abbrev m_c_Text_init : Room := { frames := 1, cells := 1, slots := 240, locals := 12 }
set_option maxHeartbeats 4000000 in
set_option maxRecDepth 100000 in
theorem c_Text_init (l : Launch) (G : zG) (h0 : Nat)  : zM l G y_Text_init prog_9_method_1_code 1 (Option.none : Option Jvm.ClassFile.FieldType) m_c_Text_init [.ref h0] [(h0, .inr (1, [.int 0, .null]))] (fun v w => v = none ∧ w = [(h0, .inr (1, [.int 0, .ref q_1])), (q_1, .inl (G.2 2, 240, .inl (fun _ => 0)))]) := by
  refine z_start (by decide +kernel) (Nat.le_of_ble_eq_true rfl) ?_
  intro p e s m below meth c A Z hr hnm hA hP hD hS ls hl
  have Z : zC p s m _ meth c prog_9_method_1_code 1 "TraceMachines$Text" G := Z
  obtain ⟨hx, hb, hml, hown, hts, hK, hN, hlocks⟩ := id Z
  have hl : lv_has ls 1 [(0, .ref h0)] := hl
  refine lv_aload_n hx hb d_Text_init_0 rfl (lv_at hl 0 rfl) ?_
  refine W.objInit hx hb hown (hts _ q36) (hts _ q29) (hts _ q30) rfl (by rw [hml]; exact hl.1) rfl d_Text_init_1 (Nat.le_of_ble_eq_true rfl) (Nat.le_of_ble_eq_true rfl) ?_
  refine W.eq (g2 := F0 m 4 ls []) rfl ?_
  refine lv_aload_n hx hb d_Text_init_4 rfl (lv_at hl 0 rfl) ?_
  refine lv_sipush (v := 240) hx hb d_Text_init_5 (by decide) ?_
  refine z_newa (atype := .char) (ty := .char) (a0 := (240, .inl (fun _ => 0))) Z hP hD hS hA q45 rfl 2 rfl (fun _ h => by cases h) (fun _ => by rfl) (by decide +kernel) (N' := 240) (by decide +kernel) (by decide +kernel) (Nat.le_of_ble_eq_true rfl) (Nat.le_of_ble_eq_true rfl) d_Text_init_8 (fun q_1 H hP hD hS => ?_)
  have hP : va_P G.1 classes [(h0, .inr (1, [.int 0, .null])), (q_1, .inl (G.2 2, 240, .inl (fun _ => 0)))] H := hP
  have hD : va_D A [(h0, .inr (1, [.int 0, .null])), (q_1, .inl (G.2 2, 240, .inl (fun _ => 0)))] := hD
  refine W.widen (k := 1) (n := 240) (Nat.le_of_ble_eq_true rfl) (Nat.le_of_ble_eq_true rfl) ?_
  refine va_putF (D := G.1) (ci := 1) (v := .ref q_1) (ty := .array .char) (C := R_Text) (T := F_Text) (N := 2) hx hb hts i_Text t_Text t_Text_ok n_Text hown hK hP hD hS 0 rfl rfl 1 (by decide) (hts _ q39) (fun _ h9 => h9) rfl hnm rfl (by decide +kernel) rfl rfl (Nat.le_of_ble_eq_true rfl) d_Text_init_10 (fun H locs hP hD hS => ?_)
  have hP : va_P G.1 classes [(h0, .inr (1, [.int 0, .ref q_1])), (q_1, .inl (G.2 2, 240, .inl (fun _ => 0)))] H := hP
  have hD : va_D A [(h0, .inr (1, [.int 0, .ref q_1])), (q_1, .inl (G.2 2, 240, .inl (fun _ => 0)))] := hD
  exact z_vret hx hb hr hlocks hP hD hS (Nat.le_of_ble_eq_true rfl) (Nat.le_of_ble_eq_true rfl) d_Text_init_13 ⟨rfl, rfl⟩
theorem d_Text_cut_0 : decode prog_9_method_3_code 0 = .ok (.iload_n 1, 1) := by decide +kernel
theorem d_Text_cut_1 : decode prog_9_method_3_code 1 = .ok (.ifCond .lt 11, 3) := by decide +kernel
theorem d_Text_cut_4 : decode prog_9_method_3_code 4 = .ok (.iload_n 1, 1) := by decide +kernel
theorem d_Text_cut_5 : decode prog_9_method_3_code 5 = .ok (.aload_n 0, 1) := by decide +kernel
theorem d_Text_cut_6 : decode prog_9_method_3_code 6 = .ok (.getfield 15, 3) := by decide +kernel
theorem d_Text_cut_9 : decode prog_9_method_3_code 9 = .ok (.if_icmp .le 5, 3) := by decide +kernel
theorem d_Text_cut_12 : decode prog_9_method_3_code 12 = .ok (.iconst 0, 1) := by decide +kernel
theorem d_Text_cut_13 : decode prog_9_method_3_code 13 = .ok (.ireturn, 1) := by decide +kernel
theorem d_Text_cut_14 : decode prog_9_method_3_code 14 = .ok (.aload_n 0, 1) := by decide +kernel
theorem d_Text_cut_15 : decode prog_9_method_3_code 15 = .ok (.iload_n 1, 1) := by decide +kernel
theorem d_Text_cut_16 : decode prog_9_method_3_code 16 = .ok (.putfield 15, 3) := by decide +kernel
theorem d_Text_cut_19 : decode prog_9_method_3_code 19 = .ok (.iconst 1, 1) := by decide +kernel
theorem d_Text_cut_20 : decode prog_9_method_3_code 20 = .ok (.ireturn, 1) := by decide +kernel
abbrev m_c_Text_cut : Room := { frames := 0, cells := 0, slots := 0, locals := 0 }
set_option maxHeartbeats 4000000 in
set_option maxRecDepth 100000 in
theorem c_Text_cut (l : Launch) (G : zG) (h0 : Nat) (h1 : Nat) (p0 : Int32)  : zM l G y_Text_cut prog_9_method_3_code 2 (Option.some Jvm.ClassFile.FieldType.boolean) m_c_Text_cut [.ref h0, .int p0] [(h0, .inr (1, [.int 0, .ref h1]))] (fun v _ => v = some (.int (if p0 = 0 then 1 else 0))) := by
  refine z_start (by decide +kernel) (Nat.le_of_ble_eq_true rfl) ?_
  intro p e s m below meth c A Z hr hnm hA hP hD hS ls hl
  have Z : zC p s m _ meth c prog_9_method_3_code 2 "TraceMachines$Text" G := Z
  obtain ⟨hx, hb, hml, hown, hts, hK, hN, hlocks⟩ := id Z
  have hl : lv_has ls 2 [(0, .ref h0), (1, .int p0)] := hl
  refine lv_iload_n hx hb d_Text_cut_0 rfl (lv_at hl 1 rfl) ?_
  refine lv_if_lt (tgt := 12) hx hb d_Text_cut_1 (by decide) (fun hc_1 => ?_) (fun hc_1 => ?_)
  · refine lv_iconst (v := 0) hx hb d_Text_cut_12 (by decide) ?_
    exact z_zret hx hb hr hlocks rfl hP hD hS (Nat.le_of_ble_eq_true rfl) (Nat.le_of_ble_eq_true rfl) d_Text_cut_13 (by first | (have h0 : p0 = 0 := by (apply Int32.toInt_inj.mp; have := Int32.lt_iff_toInt_lt; have := Int32.le_iff_toInt_le; simp_all <;> omega); simp [h0]) | (have h0 : ¬ p0 = 0 := by (rintro rfl; simp_all); simp [h0]))
  · refine lv_iload_n hx hb d_Text_cut_4 rfl (lv_at hl 1 rfl) ?_
    refine lv_aload_n hx hb d_Text_cut_5 rfl (lv_at hl 0 rfl) ?_
    refine va_get (D := G.1) (ci := 1) (v := .int 0) (C := R_Text) (T := F_Text) (N := 2) hx hb hts i_Text hown hK hP 0 rfl rfl 0 (by decide) (hts _ q37) (fun _ h9 => h9) rfl d_Text_cut_6 ?_
    refine lv_icmp_le (tgt := 14) hx hb d_Text_cut_9 (by decide) (fun hc_2 => ?_) (fun hc_2 => ?_)
    · refine lv_aload_n hx hb d_Text_cut_14 rfl (lv_at hl 0 rfl) ?_
      refine lv_iload_n hx hb d_Text_cut_15 rfl (lv_at hl 1 rfl) ?_
      refine va_put (D := G.1) (ci := 1) (v := .int p0) (ty := .int) (C := R_Text) (T := F_Text) (N := 2) hx hb hts i_Text t_Text t_Text_ok n_Text hown hK hP hD hS 0 rfl rfl 0 (by decide) (hts _ q37) (fun _ h9 => h9) rfl (by decide +kernel) rfl rfl (Nat.le_of_ble_eq_true rfl) d_Text_cut_16 (fun H locs hP hD hS => ?_)
      have hP : va_P G.1 classes [(h0, .inr (1, [.int p0, .ref h1]))] H := hP
      have hD : va_D A [(h0, .inr (1, [.int p0, .ref h1]))] := hD
      refine lv_iconst (v := 1) hx hb d_Text_cut_19 (by decide) ?_
      exact z_zret hx hb hr hlocks rfl hP hD hS (Nat.le_of_ble_eq_true rfl) (Nat.le_of_ble_eq_true rfl) d_Text_cut_20 (by first | (have h0 : p0 = 0 := by (apply Int32.toInt_inj.mp; have := Int32.lt_iff_toInt_lt; have := Int32.le_iff_toInt_le; simp_all <;> omega); simp [h0]) | (have h0 : ¬ p0 = 0 := by (rintro rfl; simp_all); simp [h0]))
    · refine lv_iconst (v := 0) hx hb d_Text_cut_12 (by decide) ?_
      exact z_zret hx hb hr hlocks rfl hP hD hS (Nat.le_of_ble_eq_true rfl) (Nat.le_of_ble_eq_true rfl) d_Text_cut_13 (by first | (have h0 : p0 = 0 := by (apply Int32.toInt_inj.mp; have := Int32.lt_iff_toInt_lt; have := Int32.le_iff_toInt_le; simp_all <;> omega); simp [h0]) | (have h0 : ¬ p0 = 0 := by (rintro rfl; simp_all); simp [h0]))
theorem d_Text_put_0 : decode prog_9_method_2_code 0 = .ok (.aload_n 0, 1) := by decide +kernel
theorem d_Text_put_1 : decode prog_9_method_2_code 1 = .ok (.getfield 15, 3) := by decide +kernel
theorem d_Text_put_4 : decode prog_9_method_2_code 4 = .ok (.iconst 4, 1) := by decide +kernel
theorem d_Text_put_5 : decode prog_9_method_2_code 5 = .ok (.iadd, 1) := by decide +kernel
theorem d_Text_put_6 : decode prog_9_method_2_code 6 = .ok (.sipush 240, 3) := by decide +kernel
theorem d_Text_put_9 : decode prog_9_method_2_code 9 = .ok (.if_icmp .le 5, 3) := by decide +kernel
theorem d_Text_put_14 : decode prog_9_method_2_code 14 = .ok (.bipush 24, 2) := by decide +kernel
theorem d_Text_put_16 : decode prog_9_method_2_code 16 = .ok (.istore_n 2, 1) := by decide +kernel
theorem d_Text_put_17 : decode prog_9_method_2_code 17 = .ok (.iload_n 2, 1) := by decide +kernel
theorem d_Text_put_18 : decode prog_9_method_2_code 18 = .ok (.ifCond .lt 36, 3) := by decide +kernel
theorem d_Text_put_21 : decode prog_9_method_2_code 21 = .ok (.aload_n 0, 1) := by decide +kernel
theorem d_Text_put_22 : decode prog_9_method_2_code 22 = .ok (.getfield 9, 3) := by decide +kernel
theorem d_Text_put_25 : decode prog_9_method_2_code 25 = .ok (.aload_n 0, 1) := by decide +kernel
theorem d_Text_put_26 : decode prog_9_method_2_code 26 = .ok (.getfield 15, 3) := by decide +kernel
theorem d_Text_put_29 : decode prog_9_method_2_code 29 = .ok (.iload_n 1, 1) := by decide +kernel
theorem d_Text_put_30 : decode prog_9_method_2_code 30 = .ok (.iload_n 2, 1) := by decide +kernel
theorem d_Text_put_31 : decode prog_9_method_2_code 31 = .ok (.iushr, 1) := by decide +kernel
theorem d_Text_put_32 : decode prog_9_method_2_code 32 = .ok (.sipush 255, 3) := by decide +kernel
theorem d_Text_put_35 : decode prog_9_method_2_code 35 = .ok (.iand, 1) := by decide +kernel
theorem d_Text_put_36 : decode prog_9_method_2_code 36 = .ok (.i2c, 1) := by decide +kernel
theorem d_Text_put_37 : decode prog_9_method_2_code 37 = .ok (.castore, 1) := by decide +kernel
theorem d_Text_put_38 : decode prog_9_method_2_code 38 = .ok (.aload_n 0, 1) := by decide +kernel
theorem d_Text_put_39 : decode prog_9_method_2_code 39 = .ok (.dup, 1) := by decide +kernel
theorem d_Text_put_40 : decode prog_9_method_2_code 40 = .ok (.getfield 15, 3) := by decide +kernel
theorem d_Text_put_43 : decode prog_9_method_2_code 43 = .ok (.iconst 1, 1) := by decide +kernel
theorem d_Text_put_44 : decode prog_9_method_2_code 44 = .ok (.iadd, 1) := by decide +kernel
theorem d_Text_put_45 : decode prog_9_method_2_code 45 = .ok (.putfield 15, 3) := by decide +kernel
theorem d_Text_put_48 : decode prog_9_method_2_code 48 = .ok (.iinc 2 (-8), 3) := by decide +kernel
theorem d_Text_put_51 : decode prog_9_method_2_code 51 = .ok (.goto (-34), 3) := by decide +kernel
theorem d_Text_put_54 : decode prog_9_method_2_code 54 = .ok (.iconst 1, 1) := by decide +kernel
theorem d_Text_put_55 : decode prog_9_method_2_code 55 = .ok (.ireturn, 1) := by decide +kernel
abbrev m_c_Text_put : Room := { frames := 0, cells := 0, slots := 0, locals := 0 }
set_option maxHeartbeats 4000000 in
set_option maxRecDepth 100000 in
theorem c_Text_put (l : Launch) (G : zG) (h0 : Nat) (h1 : Nat) (p0 : Int32)  : zM l G y_Text_put prog_9_method_2_code 3 (Option.some Jvm.ClassFile.FieldType.boolean) m_c_Text_put [.ref h0, .int p0] [(h0, .inr (1, [.int 0, .ref h1])), (h1, .inl (G.2 2, 240, .inl (fun _ => 0)))] (fun v w => v = some (.int 1) ∧ ∃ f : Nat → Int32, w = [(h0, .inr (1, [.int 4, .ref h1])), (h1, .inl (G.2 2, 240, .inl f))]) := by
  refine z_start (by decide +kernel) (Nat.le_of_ble_eq_true rfl) ?_
  intro p e s m below meth c A Z hr hnm hA hP hD hS ls hl
  have Z : zC p s m _ meth c prog_9_method_2_code 3 "TraceMachines$Text" G := Z
  obtain ⟨hx, hb, hml, hown, hts, hK, hN, hlocks⟩ := id Z
  have hl : lv_has ls 3 [(0, .ref h0), (1, .int p0)] := hl
  refine lv_aload_n hx hb d_Text_put_0 rfl (lv_at hl 0 rfl) ?_
  refine va_get (D := G.1) (ci := 1) (v := .int 0) (C := R_Text) (T := F_Text) (N := 2) hx hb hts i_Text hown hK hP 0 rfl rfl 0 (by decide) (hts _ q37) (fun _ h9 => h9) rfl d_Text_put_1 ?_
  refine lv_iconst (v := 4) hx hb d_Text_put_4 (by decide) ?_
  refine lv_iadd hx hb d_Text_put_5 ?_
  refine z_topi (y := 4) (by decide +kernel) ?_
  refine lv_sipush (v := 240) hx hb d_Text_put_6 (by decide) ?_
  refine lv_icmp_le (tgt := 14) hx hb d_Text_put_9 (by decide) (fun _ => ?_) (fun hc => absurd hc (by decide +kernel))
  refine lv_bipush (v := 24) hx hb d_Text_put_14 (by decide) ?_
  refine lv_istore_n (lv' := [(2, .int 24), (0, .ref h0), (1, .int p0)]) hx hb d_Text_put_16 rfl hl (by decide) rfl (fun ls hl => ?_)
  refine lv_iload_n hx hb d_Text_put_17 rfl (lv_at hl 0 rfl) ?_
  refine lv_if_lt (tgt := 54) hx hb d_Text_put_18 (by decide) (fun hc => absurd hc (by decide +kernel)) (fun _ => ?_)
  refine lv_aload_n hx hb d_Text_put_21 rfl (lv_at hl 1 rfl) ?_
  refine va_get (D := G.1) (ci := 1) (v := .ref h1) (C := R_Text) (T := F_Text) (N := 2) hx hb hts i_Text hown hK hP 0 rfl rfl 1 (by decide) (hts _ q39) (fun _ h9 => h9) rfl d_Text_put_22 ?_
  refine lv_aload_n hx hb d_Text_put_25 rfl (lv_at hl 1 rfl) ?_
  refine va_get (D := G.1) (ci := 1) (v := .int 0) (C := R_Text) (T := F_Text) (N := 2) hx hb hts i_Text hown hK hP 0 rfl rfl 0 (by decide) (hts _ q37) (fun _ h9 => h9) rfl d_Text_put_26 ?_
  refine lv_iload_n hx hb d_Text_put_29 rfl (lv_at hl 2 rfl) ?_
  refine lv_iload_n hx hb d_Text_put_30 rfl (lv_at hl 0 rfl) ?_
  obtain ⟨v_1, ev_1⟩ : ∃ z : Int32, z = ((p0).toUInt32 >>> ((24 : Int32).toUInt32 &&& Int32.toUInt32 31)).toInt32 := ⟨_, rfl⟩
  refine lv_iushr (v := v_1) hx hb d_Text_put_31 ev_1.symm ?_
  refine lv_sipush (v := 255) hx hb d_Text_put_32 (by decide) ?_
  refine lv_iand hx hb d_Text_put_35 ?_
  refine lv_topi (fun v_2 ev_2 => ?_)
  obtain ⟨v_3, ev_3⟩ : ∃ z : Int32, z = ((v_2).toUInt32 % 65536).toInt32 := ⟨_, rfl⟩
  refine lv_i2c (v := v_3) hx hb d_Text_put_36 ev_3.symm ?_
  refine va_cast hx hb hK hP hD hS 1 2 rfl rfl (i := 0) (z_in rfl) d_Text_put_37 (fun H locs hP hD hS => ?_)
  have hP : va_P G.1 classes [(h0, .inr (1, [.int 0, .ref h1])), (h1, .inl (G.2 2, 240, .inl (upd (fun _ => 0) 0 (vp_nar .char v_3))))] H := hP
  have hD : va_D A [(h0, .inr (1, [.int 0, .ref h1])), (h1, .inl (G.2 2, 240, .inl (upd (fun _ => 0) 0 (vp_nar .char v_3))))] := hD
  refine lv_aload_n hx hb d_Text_put_38 rfl (lv_at hl 1 rfl) ?_
  refine lv_dup hx hb d_Text_put_39 rfl ?_
  refine va_get (D := G.1) (ci := 1) (v := .int 0) (C := R_Text) (T := F_Text) (N := 2) hx hb hts i_Text hown hK hP 0 rfl rfl 0 (by decide) (hts _ q37) (fun _ h9 => h9) rfl d_Text_put_40 ?_
  refine lv_iconst (v := 1) hx hb d_Text_put_43 (by decide) ?_
  refine lv_iadd hx hb d_Text_put_44 ?_
  refine z_topi (y := 1) (by decide +kernel) ?_
  refine va_put (D := G.1) (ci := 1) (v := .int 1) (ty := .int) (C := R_Text) (T := F_Text) (N := 2) hx hb hts i_Text t_Text t_Text_ok n_Text hown hK hP hD hS 0 rfl rfl 0 (by decide) (hts _ q37) (fun _ h9 => h9) rfl (by decide +kernel) rfl rfl (Nat.le_of_ble_eq_true rfl) d_Text_put_45 (fun H locs hP hD hS => ?_)
  have hP : va_P G.1 classes [(h0, .inr (1, [.int 1, .ref h1])), (h1, .inl (G.2 2, 240, .inl (upd (fun _ => 0) 0 (vp_nar .char v_3))))] H := hP
  have hD : va_D A [(h0, .inr (1, [.int 1, .ref h1])), (h1, .inl (G.2 2, 240, .inl (upd (fun _ => 0) 0 (vp_nar .char v_3))))] := hD
  refine lv_iinc (v := 16) (lv' := [(2, .int 16), (0, .ref h0), (1, .int p0)]) hx hb d_Text_put_48 hl (k := 0) rfl (by decide +kernel) (by decide) rfl (fun ls hl => ?_)
  refine lv_goto (tgt := 17) hx hb d_Text_put_51 (by decide) ?_
  refine lv_iload_n hx hb d_Text_put_17 rfl (lv_at hl 0 rfl) ?_
  refine lv_if_lt (tgt := 54) hx hb d_Text_put_18 (by decide) (fun hc => absurd hc (by decide +kernel)) (fun _ => ?_)
  refine lv_aload_n hx hb d_Text_put_21 rfl (lv_at hl 1 rfl) ?_
  refine va_get (D := G.1) (ci := 1) (v := .ref h1) (C := R_Text) (T := F_Text) (N := 2) hx hb hts i_Text hown hK hP 0 rfl rfl 1 (by decide) (hts _ q39) (fun _ h9 => h9) rfl d_Text_put_22 ?_
  refine lv_aload_n hx hb d_Text_put_25 rfl (lv_at hl 1 rfl) ?_
  refine va_get (D := G.1) (ci := 1) (v := .int 1) (C := R_Text) (T := F_Text) (N := 2) hx hb hts i_Text hown hK hP 0 rfl rfl 0 (by decide) (hts _ q37) (fun _ h9 => h9) rfl d_Text_put_26 ?_
  refine lv_iload_n hx hb d_Text_put_29 rfl (lv_at hl 2 rfl) ?_
  refine lv_iload_n hx hb d_Text_put_30 rfl (lv_at hl 0 rfl) ?_
  obtain ⟨v_4, ev_4⟩ : ∃ z : Int32, z = ((p0).toUInt32 >>> ((16 : Int32).toUInt32 &&& Int32.toUInt32 31)).toInt32 := ⟨_, rfl⟩
  refine lv_iushr (v := v_4) hx hb d_Text_put_31 ev_4.symm ?_
  refine lv_sipush (v := 255) hx hb d_Text_put_32 (by decide) ?_
  refine lv_iand hx hb d_Text_put_35 ?_
  refine lv_topi (fun v_5 ev_5 => ?_)
  obtain ⟨v_6, ev_6⟩ : ∃ z : Int32, z = ((v_5).toUInt32 % 65536).toInt32 := ⟨_, rfl⟩
  refine lv_i2c (v := v_6) hx hb d_Text_put_36 ev_6.symm ?_
  refine va_cast hx hb hK hP hD hS 1 2 rfl rfl (i := 1) (z_in rfl) d_Text_put_37 (fun H locs hP hD hS => ?_)
  have hP : va_P G.1 classes [(h0, .inr (1, [.int 1, .ref h1])), (h1, .inl (G.2 2, 240, .inl (upd (upd (fun _ => 0) 0 (vp_nar .char v_3)) 1 (vp_nar .char v_6))))] H := hP
  have hD : va_D A [(h0, .inr (1, [.int 1, .ref h1])), (h1, .inl (G.2 2, 240, .inl (upd (upd (fun _ => 0) 0 (vp_nar .char v_3)) 1 (vp_nar .char v_6))))] := hD
  refine lv_aload_n hx hb d_Text_put_38 rfl (lv_at hl 1 rfl) ?_
  refine lv_dup hx hb d_Text_put_39 rfl ?_
  refine va_get (D := G.1) (ci := 1) (v := .int 1) (C := R_Text) (T := F_Text) (N := 2) hx hb hts i_Text hown hK hP 0 rfl rfl 0 (by decide) (hts _ q37) (fun _ h9 => h9) rfl d_Text_put_40 ?_
  refine lv_iconst (v := 1) hx hb d_Text_put_43 (by decide) ?_
  refine lv_iadd hx hb d_Text_put_44 ?_
  refine z_topi (y := 2) (by decide +kernel) ?_
  refine va_put (D := G.1) (ci := 1) (v := .int 2) (ty := .int) (C := R_Text) (T := F_Text) (N := 2) hx hb hts i_Text t_Text t_Text_ok n_Text hown hK hP hD hS 0 rfl rfl 0 (by decide) (hts _ q37) (fun _ h9 => h9) rfl (by decide +kernel) rfl rfl (Nat.le_of_ble_eq_true rfl) d_Text_put_45 (fun H locs hP hD hS => ?_)
  have hP : va_P G.1 classes [(h0, .inr (1, [.int 2, .ref h1])), (h1, .inl (G.2 2, 240, .inl (upd (upd (fun _ => 0) 0 (vp_nar .char v_3)) 1 (vp_nar .char v_6))))] H := hP
  have hD : va_D A [(h0, .inr (1, [.int 2, .ref h1])), (h1, .inl (G.2 2, 240, .inl (upd (upd (fun _ => 0) 0 (vp_nar .char v_3)) 1 (vp_nar .char v_6))))] := hD
  refine lv_iinc (v := 8) (lv' := [(2, .int 8), (0, .ref h0), (1, .int p0)]) hx hb d_Text_put_48 hl (k := 0) rfl (by decide +kernel) (by decide) rfl (fun ls hl => ?_)
  refine lv_goto (tgt := 17) hx hb d_Text_put_51 (by decide) ?_
  refine lv_iload_n hx hb d_Text_put_17 rfl (lv_at hl 0 rfl) ?_
  refine lv_if_lt (tgt := 54) hx hb d_Text_put_18 (by decide) (fun hc => absurd hc (by decide +kernel)) (fun _ => ?_)
  refine lv_aload_n hx hb d_Text_put_21 rfl (lv_at hl 1 rfl) ?_
  refine va_get (D := G.1) (ci := 1) (v := .ref h1) (C := R_Text) (T := F_Text) (N := 2) hx hb hts i_Text hown hK hP 0 rfl rfl 1 (by decide) (hts _ q39) (fun _ h9 => h9) rfl d_Text_put_22 ?_
  refine lv_aload_n hx hb d_Text_put_25 rfl (lv_at hl 1 rfl) ?_
  refine va_get (D := G.1) (ci := 1) (v := .int 2) (C := R_Text) (T := F_Text) (N := 2) hx hb hts i_Text hown hK hP 0 rfl rfl 0 (by decide) (hts _ q37) (fun _ h9 => h9) rfl d_Text_put_26 ?_
  refine lv_iload_n hx hb d_Text_put_29 rfl (lv_at hl 2 rfl) ?_
  refine lv_iload_n hx hb d_Text_put_30 rfl (lv_at hl 0 rfl) ?_
  obtain ⟨v_7, ev_7⟩ : ∃ z : Int32, z = ((p0).toUInt32 >>> ((8 : Int32).toUInt32 &&& Int32.toUInt32 31)).toInt32 := ⟨_, rfl⟩
  refine lv_iushr (v := v_7) hx hb d_Text_put_31 ev_7.symm ?_
  refine lv_sipush (v := 255) hx hb d_Text_put_32 (by decide) ?_
  refine lv_iand hx hb d_Text_put_35 ?_
  refine lv_topi (fun v_8 ev_8 => ?_)
  obtain ⟨v_9, ev_9⟩ : ∃ z : Int32, z = ((v_8).toUInt32 % 65536).toInt32 := ⟨_, rfl⟩
  refine lv_i2c (v := v_9) hx hb d_Text_put_36 ev_9.symm ?_
  refine va_cast hx hb hK hP hD hS 1 2 rfl rfl (i := 2) (z_in rfl) d_Text_put_37 (fun H locs hP hD hS => ?_)
  have hP : va_P G.1 classes [(h0, .inr (1, [.int 2, .ref h1])), (h1, .inl (G.2 2, 240, .inl (upd (upd (upd (fun _ => 0) 0 (vp_nar .char v_3)) 1 (vp_nar .char v_6)) 2 (vp_nar .char v_9))))] H := hP
  have hD : va_D A [(h0, .inr (1, [.int 2, .ref h1])), (h1, .inl (G.2 2, 240, .inl (upd (upd (upd (fun _ => 0) 0 (vp_nar .char v_3)) 1 (vp_nar .char v_6)) 2 (vp_nar .char v_9))))] := hD
  refine lv_aload_n hx hb d_Text_put_38 rfl (lv_at hl 1 rfl) ?_
  refine lv_dup hx hb d_Text_put_39 rfl ?_
  refine va_get (D := G.1) (ci := 1) (v := .int 2) (C := R_Text) (T := F_Text) (N := 2) hx hb hts i_Text hown hK hP 0 rfl rfl 0 (by decide) (hts _ q37) (fun _ h9 => h9) rfl d_Text_put_40 ?_
  refine lv_iconst (v := 1) hx hb d_Text_put_43 (by decide) ?_
  refine lv_iadd hx hb d_Text_put_44 ?_
  refine z_topi (y := 3) (by decide +kernel) ?_
  refine va_put (D := G.1) (ci := 1) (v := .int 3) (ty := .int) (C := R_Text) (T := F_Text) (N := 2) hx hb hts i_Text t_Text t_Text_ok n_Text hown hK hP hD hS 0 rfl rfl 0 (by decide) (hts _ q37) (fun _ h9 => h9) rfl (by decide +kernel) rfl rfl (Nat.le_of_ble_eq_true rfl) d_Text_put_45 (fun H locs hP hD hS => ?_)
  have hP : va_P G.1 classes [(h0, .inr (1, [.int 3, .ref h1])), (h1, .inl (G.2 2, 240, .inl (upd (upd (upd (fun _ => 0) 0 (vp_nar .char v_3)) 1 (vp_nar .char v_6)) 2 (vp_nar .char v_9))))] H := hP
  have hD : va_D A [(h0, .inr (1, [.int 3, .ref h1])), (h1, .inl (G.2 2, 240, .inl (upd (upd (upd (fun _ => 0) 0 (vp_nar .char v_3)) 1 (vp_nar .char v_6)) 2 (vp_nar .char v_9))))] := hD
  refine lv_iinc (v := 0) (lv' := [(2, .int 0), (0, .ref h0), (1, .int p0)]) hx hb d_Text_put_48 hl (k := 0) rfl (by decide +kernel) (by decide) rfl (fun ls hl => ?_)
  refine lv_goto (tgt := 17) hx hb d_Text_put_51 (by decide) ?_
  refine lv_iload_n hx hb d_Text_put_17 rfl (lv_at hl 0 rfl) ?_
  refine lv_if_lt (tgt := 54) hx hb d_Text_put_18 (by decide) (fun hc => absurd hc (by decide +kernel)) (fun _ => ?_)
  refine lv_aload_n hx hb d_Text_put_21 rfl (lv_at hl 1 rfl) ?_
  refine va_get (D := G.1) (ci := 1) (v := .ref h1) (C := R_Text) (T := F_Text) (N := 2) hx hb hts i_Text hown hK hP 0 rfl rfl 1 (by decide) (hts _ q39) (fun _ h9 => h9) rfl d_Text_put_22 ?_
  refine lv_aload_n hx hb d_Text_put_25 rfl (lv_at hl 1 rfl) ?_
  refine va_get (D := G.1) (ci := 1) (v := .int 3) (C := R_Text) (T := F_Text) (N := 2) hx hb hts i_Text hown hK hP 0 rfl rfl 0 (by decide) (hts _ q37) (fun _ h9 => h9) rfl d_Text_put_26 ?_
  refine lv_iload_n hx hb d_Text_put_29 rfl (lv_at hl 2 rfl) ?_
  refine lv_iload_n hx hb d_Text_put_30 rfl (lv_at hl 0 rfl) ?_
  obtain ⟨v_10, ev_10⟩ : ∃ z : Int32, z = ((p0).toUInt32 >>> ((0 : Int32).toUInt32 &&& Int32.toUInt32 31)).toInt32 := ⟨_, rfl⟩
  refine lv_iushr (v := v_10) hx hb d_Text_put_31 ev_10.symm ?_
  refine lv_sipush (v := 255) hx hb d_Text_put_32 (by decide) ?_
  refine lv_iand hx hb d_Text_put_35 ?_
  refine lv_topi (fun v_11 ev_11 => ?_)
  obtain ⟨v_12, ev_12⟩ : ∃ z : Int32, z = ((v_11).toUInt32 % 65536).toInt32 := ⟨_, rfl⟩
  refine lv_i2c (v := v_12) hx hb d_Text_put_36 ev_12.symm ?_
  refine va_cast hx hb hK hP hD hS 1 2 rfl rfl (i := 3) (z_in rfl) d_Text_put_37 (fun H locs hP hD hS => ?_)
  have hP : va_P G.1 classes [(h0, .inr (1, [.int 3, .ref h1])), (h1, .inl (G.2 2, 240, .inl (upd (upd (upd (upd (fun _ => 0) 0 (vp_nar .char v_3)) 1 (vp_nar .char v_6)) 2 (vp_nar .char v_9)) 3 (vp_nar .char v_12))))] H := hP
  have hD : va_D A [(h0, .inr (1, [.int 3, .ref h1])), (h1, .inl (G.2 2, 240, .inl (upd (upd (upd (upd (fun _ => 0) 0 (vp_nar .char v_3)) 1 (vp_nar .char v_6)) 2 (vp_nar .char v_9)) 3 (vp_nar .char v_12))))] := hD
  refine lv_aload_n hx hb d_Text_put_38 rfl (lv_at hl 1 rfl) ?_
  refine lv_dup hx hb d_Text_put_39 rfl ?_
  refine va_get (D := G.1) (ci := 1) (v := .int 3) (C := R_Text) (T := F_Text) (N := 2) hx hb hts i_Text hown hK hP 0 rfl rfl 0 (by decide) (hts _ q37) (fun _ h9 => h9) rfl d_Text_put_40 ?_
  refine lv_iconst (v := 1) hx hb d_Text_put_43 (by decide) ?_
  refine lv_iadd hx hb d_Text_put_44 ?_
  refine z_topi (y := 4) (by decide +kernel) ?_
  refine va_put (D := G.1) (ci := 1) (v := .int 4) (ty := .int) (C := R_Text) (T := F_Text) (N := 2) hx hb hts i_Text t_Text t_Text_ok n_Text hown hK hP hD hS 0 rfl rfl 0 (by decide) (hts _ q37) (fun _ h9 => h9) rfl (by decide +kernel) rfl rfl (Nat.le_of_ble_eq_true rfl) d_Text_put_45 (fun H locs hP hD hS => ?_)
  have hP : va_P G.1 classes [(h0, .inr (1, [.int 4, .ref h1])), (h1, .inl (G.2 2, 240, .inl (upd (upd (upd (upd (fun _ => 0) 0 (vp_nar .char v_3)) 1 (vp_nar .char v_6)) 2 (vp_nar .char v_9)) 3 (vp_nar .char v_12))))] H := hP
  have hD : va_D A [(h0, .inr (1, [.int 4, .ref h1])), (h1, .inl (G.2 2, 240, .inl (upd (upd (upd (upd (fun _ => 0) 0 (vp_nar .char v_3)) 1 (vp_nar .char v_6)) 2 (vp_nar .char v_9)) 3 (vp_nar .char v_12))))] := hD
  refine lv_iinc (v := (-8)) (lv' := [(2, .int (-8)), (0, .ref h0), (1, .int p0)]) hx hb d_Text_put_48 hl (k := 0) rfl (by decide +kernel) (by decide) rfl (fun ls hl => ?_)
  refine lv_goto (tgt := 17) hx hb d_Text_put_51 (by decide) ?_
  refine lv_iload_n hx hb d_Text_put_17 rfl (lv_at hl 0 rfl) ?_
  refine lv_if_lt (tgt := 54) hx hb d_Text_put_18 (by decide) (fun _ => ?_) (fun hc => absurd hc (by decide +kernel))
  refine lv_iconst (v := 1) hx hb d_Text_put_54 (by decide) ?_
  exact z_zret hx hb hr hlocks rfl hP hD hS (Nat.le_of_ble_eq_true rfl) (Nat.le_of_ble_eq_true rfl) d_Text_put_55 ⟨rfl, _, rfl⟩
end
