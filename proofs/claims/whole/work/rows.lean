section
-- ===== PART A: goes FIRST, ahead of the names: the tables' words, and 'selects' of the private methods out of them =====
/-- a private method of a class that the tables say can be made, by its rows of tables_1 -/
def lw_okq (q : MethodName × Nat) : Prop := (q.1.cls ≠ "java/lang/invoke/MethodHandle" ∧ q.1.cls ≠ "java/lang/invoke/VarHandle") ∧ Cond.instantiable q.1.cls q.2 ∈ tables_1 ∧ Cond.privateMethod q.1 ∈ tables_1 ∧ Cond.instanceMethod q.1 ∈ tables_1
theorem lw_p0 : lw_okq (⟨"RandomWalks", "countTrees", "()J"⟩, 12) := ⟨⟨by decide +kernel, by decide +kernel⟩, List.mem_of_getElem? (i := 27) (by decide +kernel), List.mem_of_getElem? (i := 370) (by decide +kernel), List.mem_of_getElem? (i := 371) (by decide +kernel)⟩
theorem lw_p1 : lw_okq (⟨"RandomWalks$Equations", "build", "(LRandomWalks$Graph;II[J)V"⟩, 4) := ⟨⟨by decide +kernel, by decide +kernel⟩, List.mem_of_getElem? (i := 231) (by decide +kernel), List.mem_of_getElem? (i := 378) (by decide +kernel), List.mem_of_getElem? (i := 379) (by decide +kernel)⟩
theorem lw_p2 : lw_okq (⟨"RandomWalks$Equations", "putCell", "(IIJ)V"⟩, 4) := ⟨⟨by decide +kernel, by decide +kernel⟩, List.mem_of_getElem? (i := 231) (by decide +kernel), List.mem_of_getElem? (i := 391) (by decide +kernel), List.mem_of_getElem? (i := 392) (by decide +kernel)⟩
theorem lw_p3 : lw_okq (⟨"RandomWalks$Equations", "eliminate", "()Z"⟩, 4) := ⟨⟨by decide +kernel, by decide +kernel⟩, List.mem_of_getElem? (i := 231) (by decide +kernel), List.mem_of_getElem? (i := 395) (by decide +kernel), List.mem_of_getElem? (i := 396) (by decide +kernel)⟩
theorem lw_p4 : lw_okq (⟨"RandomWalks$Equations", "cell", "(II)J"⟩, 4) := ⟨⟨by decide +kernel, by decide +kernel⟩, List.mem_of_getElem? (i := 231) (by decide +kernel), List.mem_of_getElem? (i := 399) (by decide +kernel), List.mem_of_getElem? (i := 400) (by decide +kernel)⟩
theorem lw_p5 : lw_okq (⟨"RandomWalks$Partition", "divideAll", "(LRandomWalks$Graph;)V"⟩, 3) := ⟨⟨by decide +kernel, by decide +kernel⟩, List.mem_of_getElem? (i := 210) (by decide +kernel), List.mem_of_getElem? (i := 457) (by decide +kernel), List.mem_of_getElem? (i := 458) (by decide +kernel)⟩
theorem lw_p6 : lw_okq (⟨"java/lang/Throwable", "fillInStackTrace", "(I)Ljava/lang/Throwable;"⟩, 6) := ⟨⟨by decide +kernel, by decide +kernel⟩, List.mem_of_getElem? (i := 525) (by decide +kernel), List.mem_of_getElem? (i := 523) (by decide +kernel), List.mem_of_getElem? (i := 524) (by decide +kernel)⟩
theorem lw_p7 : lw_okq (⟨"RandomWalks$Tokens", "scanToken", "(II)I"⟩, 6) := ⟨⟨by decide +kernel, by decide +kernel⟩, List.mem_of_getElem? (i := 120) (by decide +kernel), List.mem_of_getElem? (i := 559) (by decide +kernel), List.mem_of_getElem? (i := 560) (by decide +kernel)⟩
theorem lw_p8 : lw_okq (⟨"RandomWalks$Tokens", "scanNumber", "(II)I"⟩, 6) := ⟨⟨by decide +kernel, by decide +kernel⟩, List.mem_of_getElem? (i := 120) (by decide +kernel), List.mem_of_getElem? (i := 566) (by decide +kernel), List.mem_of_getElem? (i := 567) (by decide +kernel)⟩
theorem lw_p9 : lw_okq (⟨"RandomWalks$Tokens", "put", "(III)V"⟩, 6) := ⟨⟨by decide +kernel, by decide +kernel⟩, List.mem_of_getElem? (i := 120) (by decide +kernel), List.mem_of_getElem? (i := 570) (by decide +kernel), List.mem_of_getElem? (i := 571) (by decide +kernel)⟩
theorem lw_p10 : lw_okq (⟨"RandomWalks$Tokens", "scanWord", "(II)I"⟩, 6) := ⟨⟨by decide +kernel, by decide +kernel⟩, List.mem_of_getElem? (i := 120) (by decide +kernel), List.mem_of_getElem? (i := 577) (by decide +kernel), List.mem_of_getElem? (i := 578) (by decide +kernel)⟩
theorem lw_p11 : lw_okq (⟨"RandomWalks$Tokens", "kindOfWord", "(II)I"⟩, 6) := ⟨⟨by decide +kernel, by decide +kernel⟩, List.mem_of_getElem? (i := 120) (by decide +kernel), List.mem_of_getElem? (i := 581) (by decide +kernel), List.mem_of_getElem? (i := 582) (by decide +kernel)⟩
theorem lw_p12 : lw_okq (⟨"RandomWalks$Tokens", "isWord", "(Ljava/lang/String;II)Z"⟩, 6) := ⟨⟨by decide +kernel, by decide +kernel⟩, List.mem_of_getElem? (i := 120) (by decide +kernel), List.mem_of_getElem? (i := 586) (by decide +kernel), List.mem_of_getElem? (i := 587) (by decide +kernel)⟩
theorem lw_p13 : lw_okq (⟨"RandomWalks$Reader", "takeToken", "()V"⟩, 13) := ⟨⟨by decide +kernel, by decide +kernel⟩, List.mem_of_getElem? (i := 114) (by decide +kernel), List.mem_of_getElem? (i := 649) (by decide +kernel), List.mem_of_getElem? (i := 650) (by decide +kernel)⟩
theorem lw_p14 : lw_okq (⟨"RandomWalks$Reader", "fail", "(I)Z"⟩, 13) := ⟨⟨by decide +kernel, by decide +kernel⟩, List.mem_of_getElem? (i := 114) (by decide +kernel), List.mem_of_getElem? (i := 653) (by decide +kernel), List.mem_of_getElem? (i := 654) (by decide +kernel)⟩
theorem lw_p15 : lw_okq (⟨"RandomWalks$Reader", "readNumber", "(II)Z"⟩, 13) := ⟨⟨by decide +kernel, by decide +kernel⟩, List.mem_of_getElem? (i := 114) (by decide +kernel), List.mem_of_getElem? (i := 657) (by decide +kernel), List.mem_of_getElem? (i := 658) (by decide +kernel)⟩
def lw_privs_1 : List (MethodName × Nat) := [(⟨"RandomWalks", "countTrees", "()J"⟩, 12), (⟨"RandomWalks$Equations", "build", "(LRandomWalks$Graph;II[J)V"⟩, 4), (⟨"RandomWalks$Equations", "putCell", "(IIJ)V"⟩, 4), (⟨"RandomWalks$Equations", "eliminate", "()Z"⟩, 4), (⟨"RandomWalks$Equations", "cell", "(II)J"⟩, 4), (⟨"RandomWalks$Partition", "divideAll", "(LRandomWalks$Graph;)V"⟩, 3), (⟨"java/lang/Throwable", "fillInStackTrace", "(I)Ljava/lang/Throwable;"⟩, 6), (⟨"RandomWalks$Tokens", "scanToken", "(II)I"⟩, 6), (⟨"RandomWalks$Tokens", "scanNumber", "(II)I"⟩, 6), (⟨"RandomWalks$Tokens", "put", "(III)V"⟩, 6), (⟨"RandomWalks$Tokens", "scanWord", "(II)I"⟩, 6), (⟨"RandomWalks$Tokens", "kindOfWord", "(II)I"⟩, 6), (⟨"RandomWalks$Tokens", "isWord", "(Ljava/lang/String;II)Z"⟩, 6), (⟨"RandomWalks$Reader", "takeToken", "()V"⟩, 13), (⟨"RandomWalks$Reader", "fail", "(I)Z"⟩, 13), (⟨"RandomWalks$Reader", "readNumber", "(II)Z"⟩, 13)]
theorem lw_r1 : ∀ q ∈ lw_privs_1, lw_okq q := List.forall_mem_cons.mpr ⟨lw_p0, List.forall_mem_cons.mpr ⟨lw_p1, List.forall_mem_cons.mpr ⟨lw_p2, List.forall_mem_cons.mpr ⟨lw_p3, List.forall_mem_cons.mpr ⟨lw_p4, List.forall_mem_cons.mpr ⟨lw_p5, List.forall_mem_cons.mpr ⟨lw_p6, List.forall_mem_cons.mpr ⟨lw_p7, List.forall_mem_cons.mpr ⟨lw_p8, List.forall_mem_cons.mpr ⟨lw_p9, List.forall_mem_cons.mpr ⟨lw_p10, List.forall_mem_cons.mpr ⟨lw_p11, List.forall_mem_cons.mpr ⟨lw_p12, List.forall_mem_cons.mpr ⟨lw_p13, List.forall_mem_cons.mpr ⟨lw_p14, List.forall_mem_cons.mpr ⟨lw_p15, fun _ h => absurd h List.not_mem_nil⟩⟩⟩⟩⟩⟩⟩⟩⟩⟩⟩⟩⟩⟩⟩⟩
theorem lw_p16 : lw_okq (⟨"RandomWalks$Reader", "readSemicolon", "()Z"⟩, 13) := ⟨⟨by decide +kernel, by decide +kernel⟩, List.mem_of_getElem? (i := 114) (by decide +kernel), List.mem_of_getElem? (i := 670) (by decide +kernel), List.mem_of_getElem? (i := 671) (by decide +kernel)⟩
theorem lw_p17 : lw_okq (⟨"RandomWalks$Reader", "readStatement", "()Z"⟩, 13) := ⟨⟨by decide +kernel, by decide +kernel⟩, List.mem_of_getElem? (i := 114) (by decide +kernel), List.mem_of_getElem? (i := 674) (by decide +kernel), List.mem_of_getElem? (i := 675) (by decide +kernel)⟩
theorem lw_p18 : lw_okq (⟨"RandomWalks$Reader", "readEdge", "()Z"⟩, 13) := ⟨⟨by decide +kernel, by decide +kernel⟩, List.mem_of_getElem? (i := 114) (by decide +kernel), List.mem_of_getElem? (i := 678) (by decide +kernel), List.mem_of_getElem? (i := 679) (by decide +kernel)⟩
theorem lw_p19 : lw_okq (⟨"RandomWalks$Reader", "readVertex", "()Z"⟩, 13) := ⟨⟨by decide +kernel, by decide +kernel⟩, List.mem_of_getElem? (i := 114) (by decide +kernel), List.mem_of_getElem? (i := 682) (by decide +kernel), List.mem_of_getElem? (i := 683) (by decide +kernel)⟩
theorem lw_p20 : lw_okq (⟨"RandomWalks$Reader", "readAbsorb", "()Z"⟩, 13) := ⟨⟨by decide +kernel, by decide +kernel⟩, List.mem_of_getElem? (i := 114) (by decide +kernel), List.mem_of_getElem? (i := 695) (by decide +kernel), List.mem_of_getElem? (i := 696) (by decide +kernel)⟩
theorem lw_p21 : lw_okq (⟨"RandomWalks$Reader", "readJoin", "()Z"⟩, 13) := ⟨⟨by decide +kernel, by decide +kernel⟩, List.mem_of_getElem? (i := 114) (by decide +kernel), List.mem_of_getElem? (i := 703) (by decide +kernel), List.mem_of_getElem? (i := 704) (by decide +kernel)⟩
theorem lw_p22 : lw_okq (⟨"RandomWalks$Graph", "numberBlocks", "()V"⟩, 10) := ⟨⟨by decide +kernel, by decide +kernel⟩, List.mem_of_getElem? (i := 35) (by decide +kernel), List.mem_of_getElem? (i := 711) (by decide +kernel), List.mem_of_getElem? (i := 712) (by decide +kernel)⟩
theorem lw_p23 : lw_okq (⟨"RandomWalks$Reader", "readCost", "()Z"⟩, 13) := ⟨⟨by decide +kernel, by decide +kernel⟩, List.mem_of_getElem? (i := 114) (by decide +kernel), List.mem_of_getElem? (i := 715) (by decide +kernel), List.mem_of_getElem? (i := 716) (by decide +kernel)⟩
theorem lw_p24 : lw_okq (⟨"RandomWalks$Reader", "postpone", "(I)V"⟩, 13) := ⟨⟨by decide +kernel, by decide +kernel⟩, List.mem_of_getElem? (i := 114) (by decide +kernel), List.mem_of_getElem? (i := 719) (by decide +kernel), List.mem_of_getElem? (i := 720) (by decide +kernel)⟩
theorem lw_p25 : lw_okq (⟨"RandomWalks$Reader", "readFactor", "()Z"⟩, 13) := ⟨⟨by decide +kernel, by decide +kernel⟩, List.mem_of_getElem? (i := 114) (by decide +kernel), List.mem_of_getElem? (i := 723) (by decide +kernel), List.mem_of_getElem? (i := 724) (by decide +kernel)⟩
theorem lw_p26 : lw_okq (⟨"RandomWalks$Reader", "emit", "(I)V"⟩, 13) := ⟨⟨by decide +kernel, by decide +kernel⟩, List.mem_of_getElem? (i := 114) (by decide +kernel), List.mem_of_getElem? (i := 727) (by decide +kernel), List.mem_of_getElem? (i := 728) (by decide +kernel)⟩
theorem lw_p27 : lw_okq (⟨"RandomWalks$Reader", "release", "(I)V"⟩, 13) := ⟨⟨by decide +kernel, by decide +kernel⟩, List.mem_of_getElem? (i := 114) (by decide +kernel), List.mem_of_getElem? (i := 734) (by decide +kernel), List.mem_of_getElem? (i := 735) (by decide +kernel)⟩
theorem lw_p28 : lw_okq (⟨"RandomWalks", "requireEdge", "(I)V"⟩, 12) := ⟨⟨by decide +kernel, by decide +kernel⟩, List.mem_of_getElem? (i := 27) (by decide +kernel), List.mem_of_getElem? (i := 762) (by decide +kernel), List.mem_of_getElem? (i := 763) (by decide +kernel)⟩
theorem lw_p29 : lw_okq (⟨"RandomWalks$Costs", "evaluate", "([IIII)I"⟩, 2) := ⟨⟨by decide +kernel, by decide +kernel⟩, List.mem_of_getElem? (i := 197) (by decide +kernel), List.mem_of_getElem? (i := 788) (by decide +kernel), List.mem_of_getElem? (i := 789) (by decide +kernel)⟩
theorem lw_p30 : lw_okq (⟨"RandomWalks", "requireVertex", "(I)V"⟩, 12) := ⟨⟨by decide +kernel, by decide +kernel⟩, List.mem_of_getElem? (i := 27) (by decide +kernel), List.mem_of_getElem? (i := 815) (by decide +kernel), List.mem_of_getElem? (i := 816) (by decide +kernel)⟩
theorem lw_p31 : lw_okq (⟨"RandomWalks$Graph", "neighbours", "(I)I"⟩, 10) := ⟨⟨by decide +kernel, by decide +kernel⟩, List.mem_of_getElem? (i := 35) (by decide +kernel), List.mem_of_getElem? (i := 832) (by decide +kernel), List.mem_of_getElem? (i := 833) (by decide +kernel)⟩
def lw_privs_2 : List (MethodName × Nat) := [(⟨"RandomWalks$Reader", "readSemicolon", "()Z"⟩, 13), (⟨"RandomWalks$Reader", "readStatement", "()Z"⟩, 13), (⟨"RandomWalks$Reader", "readEdge", "()Z"⟩, 13), (⟨"RandomWalks$Reader", "readVertex", "()Z"⟩, 13), (⟨"RandomWalks$Reader", "readAbsorb", "()Z"⟩, 13), (⟨"RandomWalks$Reader", "readJoin", "()Z"⟩, 13), (⟨"RandomWalks$Graph", "numberBlocks", "()V"⟩, 10), (⟨"RandomWalks$Reader", "readCost", "()Z"⟩, 13), (⟨"RandomWalks$Reader", "postpone", "(I)V"⟩, 13), (⟨"RandomWalks$Reader", "readFactor", "()Z"⟩, 13), (⟨"RandomWalks$Reader", "emit", "(I)V"⟩, 13), (⟨"RandomWalks$Reader", "release", "(I)V"⟩, 13), (⟨"RandomWalks", "requireEdge", "(I)V"⟩, 12), (⟨"RandomWalks$Costs", "evaluate", "([IIII)I"⟩, 2), (⟨"RandomWalks", "requireVertex", "(I)V"⟩, 12), (⟨"RandomWalks$Graph", "neighbours", "(I)I"⟩, 10)]
theorem lw_r2 : ∀ q ∈ lw_privs_2, lw_okq q := List.forall_mem_cons.mpr ⟨lw_p16, List.forall_mem_cons.mpr ⟨lw_p17, List.forall_mem_cons.mpr ⟨lw_p18, List.forall_mem_cons.mpr ⟨lw_p19, List.forall_mem_cons.mpr ⟨lw_p20, List.forall_mem_cons.mpr ⟨lw_p21, List.forall_mem_cons.mpr ⟨lw_p22, List.forall_mem_cons.mpr ⟨lw_p23, List.forall_mem_cons.mpr ⟨lw_p24, List.forall_mem_cons.mpr ⟨lw_p25, List.forall_mem_cons.mpr ⟨lw_p26, List.forall_mem_cons.mpr ⟨lw_p27, List.forall_mem_cons.mpr ⟨lw_p28, List.forall_mem_cons.mpr ⟨lw_p29, List.forall_mem_cons.mpr ⟨lw_p30, List.forall_mem_cons.mpr ⟨lw_p31, fun _ h => absurd h List.not_mem_nil⟩⟩⟩⟩⟩⟩⟩⟩⟩⟩⟩⟩⟩⟩⟩⟩
theorem lw_p32 : lw_okq (⟨"RandomWalks", "requireWay", "(II)V"⟩, 12) := ⟨⟨by decide +kernel, by decide +kernel⟩, List.mem_of_getElem? (i := 27) (by decide +kernel), List.mem_of_getElem? (i := 870) (by decide +kernel), List.mem_of_getElem? (i := 871) (by decide +kernel)⟩
theorem lw_p33 : lw_okq (⟨"RandomWalks", "gainSteps", "()V"⟩, 12) := ⟨⟨by decide +kernel, by decide +kernel⟩, List.mem_of_getElem? (i := 27) (by decide +kernel), List.mem_of_getElem? (i := 895) (by decide +kernel), List.mem_of_getElem? (i := 896) (by decide +kernel)⟩
theorem lw_p34 : lw_okq (⟨"RandomWalks", "gainCosts", "()V"⟩, 12) := ⟨⟨by decide +kernel, by decide +kernel⟩, List.mem_of_getElem? (i := 27) (by decide +kernel), List.mem_of_getElem? (i := 916) (by decide +kernel), List.mem_of_getElem? (i := 917) (by decide +kernel)⟩
theorem lw_p35 : lw_okq (⟨"RandomWalks", "findCommuteTime", "(II)V"⟩, 12) := ⟨⟨by decide +kernel, by decide +kernel⟩, List.mem_of_getElem? (i := 27) (by decide +kernel), List.mem_of_getElem? (i := 937) (by decide +kernel), List.mem_of_getElem? (i := 938) (by decide +kernel)⟩
theorem lw_p36 : lw_okq (⟨"RandomWalks", "sumOfDegrees", "(I)J"⟩, 12) := ⟨⟨by decide +kernel, by decide +kernel⟩, List.mem_of_getElem? (i := 27) (by decide +kernel), List.mem_of_getElem? (i := 953) (by decide +kernel), List.mem_of_getElem? (i := 954) (by decide +kernel)⟩
theorem lw_p37 : lw_okq (⟨"RandomWalks", "requireAbsorbingWay", "(I)V"⟩, 12) := ⟨⟨by decide +kernel, by decide +kernel⟩, List.mem_of_getElem? (i := 27) (by decide +kernel), List.mem_of_getElem? (i := 970) (by decide +kernel), List.mem_of_getElem? (i := 971) (by decide +kernel)⟩
theorem lw_p38 : lw_okq (⟨"RandomWalks", "findAbsorption", "(II)V"⟩, 12) := ⟨⟨by decide +kernel, by decide +kernel⟩, List.mem_of_getElem? (i := 27) (by decide +kernel), List.mem_of_getElem? (i := 975) (by decide +kernel), List.mem_of_getElem? (i := 976) (by decide +kernel)⟩
theorem lw_p39 : lw_okq (⟨"RandomWalks", "requireBlock", "(I)V"⟩, 12) := ⟨⟨by decide +kernel, by decide +kernel⟩, List.mem_of_getElem? (i := 27) (by decide +kernel), List.mem_of_getElem? (i := 1002) (by decide +kernel), List.mem_of_getElem? (i := 1003) (by decide +kernel)⟩
theorem lw_p40 : lw_okq (⟨"RandomWalks", "requireLumpable", "()V"⟩, 12) := ⟨⟨by decide +kernel, by decide +kernel⟩, List.mem_of_getElem? (i := 27) (by decide +kernel), List.mem_of_getElem? (i := 1007) (by decide +kernel), List.mem_of_getElem? (i := 1008) (by decide +kernel)⟩
theorem lw_p41 : lw_okq (⟨"RandomWalks$Spread", "fillChances", "(LRandomWalks$Graph;)V"⟩, 4) := ⟨⟨by decide +kernel, by decide +kernel⟩, List.mem_of_getElem? (i := 287) (by decide +kernel), List.mem_of_getElem? (i := 1046) (by decide +kernel), List.mem_of_getElem? (i := 1047) (by decide +kernel)⟩
theorem lw_p42 : lw_okq (⟨"RandomWalks$Spread", "chanceAt", "(LRandomWalks$Graph;I)F"⟩, 4) := ⟨⟨by decide +kernel, by decide +kernel⟩, List.mem_of_getElem? (i := 287) (by decide +kernel), List.mem_of_getElem? (i := 1051) (by decide +kernel), List.mem_of_getElem? (i := 1052) (by decide +kernel)⟩
theorem lw_p43 : lw_okq (⟨"RandomWalks$Stroll", "drawStep", "(LRandomWalks$Graph;)I"⟩, 5) := ⟨⟨by decide +kernel, by decide +kernel⟩, List.mem_of_getElem? (i := 265) (by decide +kernel), List.mem_of_getElem? (i := 1071) (by decide +kernel), List.mem_of_getElem? (i := 1072) (by decide +kernel)⟩
theorem lw_p44 : lw_okq (⟨"RandomWalks", "requireWeight", "(I)V"⟩, 12) := ⟨⟨by decide +kernel, by decide +kernel⟩, List.mem_of_getElem? (i := 27) (by decide +kernel), List.mem_of_getElem? (i := 1093) (by decide +kernel), List.mem_of_getElem? (i := 1094) (by decide +kernel)⟩
theorem lw_p45 : lw_okq (⟨"RandomWalksModel", "right", "(ZI)Z"⟩, 29) := ⟨⟨by decide +kernel, by decide +kernel⟩, List.mem_of_getElem? (i := 1146) (by decide +kernel), List.mem_of_getElem? (i := 1254) (by decide +kernel), List.mem_of_getElem? (i := 1255) (by decide +kernel)⟩
theorem lw_p46 : lw_okq (⟨"RandomWalksModel", "texts", "()V"⟩, 29) := ⟨⟨by decide +kernel, by decide +kernel⟩, List.mem_of_getElem? (i := 1146) (by decide +kernel), List.mem_of_getElem? (i := 1258) (by decide +kernel), List.mem_of_getElem? (i := 1259) (by decide +kernel)⟩
theorem lw_p47 : lw_okq (⟨"RandomWalksModel", "takes", "(Ljava/lang/String;)Z"⟩, 29) := ⟨⟨by decide +kernel, by decide +kernel⟩, List.mem_of_getElem? (i := 1146) (by decide +kernel), List.mem_of_getElem? (i := 1263) (by decide +kernel), List.mem_of_getElem? (i := 1264) (by decide +kernel)⟩
def lw_privs_3 : List (MethodName × Nat) := [(⟨"RandomWalks", "requireWay", "(II)V"⟩, 12), (⟨"RandomWalks", "gainSteps", "()V"⟩, 12), (⟨"RandomWalks", "gainCosts", "()V"⟩, 12), (⟨"RandomWalks", "findCommuteTime", "(II)V"⟩, 12), (⟨"RandomWalks", "sumOfDegrees", "(I)J"⟩, 12), (⟨"RandomWalks", "requireAbsorbingWay", "(I)V"⟩, 12), (⟨"RandomWalks", "findAbsorption", "(II)V"⟩, 12), (⟨"RandomWalks", "requireBlock", "(I)V"⟩, 12), (⟨"RandomWalks", "requireLumpable", "()V"⟩, 12), (⟨"RandomWalks$Spread", "fillChances", "(LRandomWalks$Graph;)V"⟩, 4), (⟨"RandomWalks$Spread", "chanceAt", "(LRandomWalks$Graph;I)F"⟩, 4), (⟨"RandomWalks$Stroll", "drawStep", "(LRandomWalks$Graph;)I"⟩, 5), (⟨"RandomWalks", "requireWeight", "(I)V"⟩, 12), (⟨"RandomWalksModel", "right", "(ZI)Z"⟩, 29), (⟨"RandomWalksModel", "texts", "()V"⟩, 29), (⟨"RandomWalksModel", "takes", "(Ljava/lang/String;)Z"⟩, 29)]
theorem lw_r3 : ∀ q ∈ lw_privs_3, lw_okq q := List.forall_mem_cons.mpr ⟨lw_p32, List.forall_mem_cons.mpr ⟨lw_p33, List.forall_mem_cons.mpr ⟨lw_p34, List.forall_mem_cons.mpr ⟨lw_p35, List.forall_mem_cons.mpr ⟨lw_p36, List.forall_mem_cons.mpr ⟨lw_p37, List.forall_mem_cons.mpr ⟨lw_p38, List.forall_mem_cons.mpr ⟨lw_p39, List.forall_mem_cons.mpr ⟨lw_p40, List.forall_mem_cons.mpr ⟨lw_p41, List.forall_mem_cons.mpr ⟨lw_p42, List.forall_mem_cons.mpr ⟨lw_p43, List.forall_mem_cons.mpr ⟨lw_p44, List.forall_mem_cons.mpr ⟨lw_p45, List.forall_mem_cons.mpr ⟨lw_p46, List.forall_mem_cons.mpr ⟨lw_p47, fun _ h => absurd h List.not_mem_nil⟩⟩⟩⟩⟩⟩⟩⟩⟩⟩⟩⟩⟩⟩⟩⟩
theorem lw_p48 : lw_okq (⟨"RandomWalksModel", "sees", "()I"⟩, 29) := ⟨⟨by decide +kernel, by decide +kernel⟩, List.mem_of_getElem? (i := 1146) (by decide +kernel), List.mem_of_getElem? (i := 1267) (by decide +kernel), List.mem_of_getElem? (i := 1268) (by decide +kernel)⟩
theorem lw_p49 : lw_okq (⟨"RandomWalksModel", "fails", "(II)V"⟩, 29) := ⟨⟨by decide +kernel, by decide +kernel⟩, List.mem_of_getElem? (i := 1146) (by decide +kernel), List.mem_of_getElem? (i := 1273) (by decide +kernel), List.mem_of_getElem? (i := 1274) (by decide +kernel)⟩
theorem lw_p50 : lw_okq (⟨"RandomWalksModel", "reads", "(II)I"⟩, 29) := ⟨⟨by decide +kernel, by decide +kernel⟩, List.mem_of_getElem? (i := 1146) (by decide +kernel), List.mem_of_getElem? (i := 1277) (by decide +kernel), List.mem_of_getElem? (i := 1278) (by decide +kernel)⟩
theorem lw_p51 : lw_okq (⟨"RandomWalksModel", "isDigit", "()Z"⟩, 29) := ⟨⟨by decide +kernel, by decide +kernel⟩, List.mem_of_getElem? (i := 1146) (by decide +kernel), List.mem_of_getElem? (i := 1281) (by decide +kernel), List.mem_of_getElem? (i := 1282) (by decide +kernel)⟩
theorem lw_p52 : lw_okq (⟨"RandomWalksModel", "wants", "(I)V"⟩, 29) := ⟨⟨by decide +kernel, by decide +kernel⟩, List.mem_of_getElem? (i := 1146) (by decide +kernel), List.mem_of_getElem? (i := 1287) (by decide +kernel), List.mem_of_getElem? (i := 1288) (by decide +kernel)⟩
theorem lw_p53 : lw_okq (⟨"RandomWalksModel", "statement", "()V"⟩, 29) := ⟨⟨by decide +kernel, by decide +kernel⟩, List.mem_of_getElem? (i := 1146) (by decide +kernel), List.mem_of_getElem? (i := 1291) (by decide +kernel), List.mem_of_getElem? (i := 1292) (by decide +kernel)⟩
theorem lw_p54 : lw_okq (⟨"RandomWalksModel", "edgeLine", "()V"⟩, 29) := ⟨⟨by decide +kernel, by decide +kernel⟩, List.mem_of_getElem? (i := 1146) (by decide +kernel), List.mem_of_getElem? (i := 1296) (by decide +kernel), List.mem_of_getElem? (i := 1297) (by decide +kernel)⟩
theorem lw_p55 : lw_okq (⟨"RandomWalksModel", "readsVertex", "()I"⟩, 29) := ⟨⟨by decide +kernel, by decide +kernel⟩, List.mem_of_getElem? (i := 1146) (by decide +kernel), List.mem_of_getElem? (i := 1300) (by decide +kernel), List.mem_of_getElem? (i := 1301) (by decide +kernel)⟩
theorem lw_p56 : lw_okq (⟨"RandomWalksModel", "absorbLine", "()V"⟩, 29) := ⟨⟨by decide +kernel, by decide +kernel⟩, List.mem_of_getElem? (i := 1146) (by decide +kernel), List.mem_of_getElem? (i := 1309) (by decide +kernel), List.mem_of_getElem? (i := 1310) (by decide +kernel)⟩
theorem lw_p57 : lw_okq (⟨"RandomWalksModel", "joinLine", "()V"⟩, 29) := ⟨⟨by decide +kernel, by decide +kernel⟩, List.mem_of_getElem? (i := 1146) (by decide +kernel), List.mem_of_getElem? (i := 1314) (by decide +kernel), List.mem_of_getElem? (i := 1315) (by decide +kernel)⟩
theorem lw_p58 : lw_okq (⟨"RandomWalksModel", "sum", "()V"⟩, 29) := ⟨⟨by decide +kernel, by decide +kernel⟩, List.mem_of_getElem? (i := 1146) (by decide +kernel), List.mem_of_getElem? (i := 1322) (by decide +kernel), List.mem_of_getElem? (i := 1323) (by decide +kernel)⟩
theorem lw_p59 : lw_okq (⟨"RandomWalksModel", "term", "()V"⟩, 29) := ⟨⟨by decide +kernel, by decide +kernel⟩, List.mem_of_getElem? (i := 1146) (by decide +kernel), List.mem_of_getElem? (i := 1326) (by decide +kernel), List.mem_of_getElem? (i := 1327) (by decide +kernel)⟩
theorem lw_p60 : lw_okq (⟨"RandomWalksModel", "factor", "()V"⟩, 29) := ⟨⟨by decide +kernel, by decide +kernel⟩, List.mem_of_getElem? (i := 1146) (by decide +kernel), List.mem_of_getElem? (i := 1330) (by decide +kernel), List.mem_of_getElem? (i := 1331) (by decide +kernel)⟩
theorem lw_p61 : lw_okq (⟨"RandomWalksModel", "codes", "(II)V"⟩, 29) := ⟨⟨by decide +kernel, by decide +kernel⟩, List.mem_of_getElem? (i := 1146) (by decide +kernel), List.mem_of_getElem? (i := 1334) (by decide +kernel), List.mem_of_getElem? (i := 1335) (by decide +kernel)⟩
theorem lw_p62 : lw_okq (⟨"RandomWalksModel", "change", "()V"⟩, 29) := ⟨⟨by decide +kernel, by decide +kernel⟩, List.mem_of_getElem? (i := 1146) (by decide +kernel), List.mem_of_getElem? (i := 1341) (by decide +kernel), List.mem_of_getElem? (i := 1342) (by decide +kernel)⟩
theorem lw_p63 : lw_okq (⟨"RandomWalksModel", "get", "(I)I"⟩, 29) := ⟨⟨by decide +kernel, by decide +kernel⟩, List.mem_of_getElem? (i := 1146) (by decide +kernel), List.mem_of_getElem? (i := 1345) (by decide +kernel), List.mem_of_getElem? (i := 1346) (by decide +kernel)⟩
def lw_privs_4 : List (MethodName × Nat) := [(⟨"RandomWalksModel", "sees", "()I"⟩, 29), (⟨"RandomWalksModel", "fails", "(II)V"⟩, 29), (⟨"RandomWalksModel", "reads", "(II)I"⟩, 29), (⟨"RandomWalksModel", "isDigit", "()Z"⟩, 29), (⟨"RandomWalksModel", "wants", "(I)V"⟩, 29), (⟨"RandomWalksModel", "statement", "()V"⟩, 29), (⟨"RandomWalksModel", "edgeLine", "()V"⟩, 29), (⟨"RandomWalksModel", "readsVertex", "()I"⟩, 29), (⟨"RandomWalksModel", "absorbLine", "()V"⟩, 29), (⟨"RandomWalksModel", "joinLine", "()V"⟩, 29), (⟨"RandomWalksModel", "sum", "()V"⟩, 29), (⟨"RandomWalksModel", "term", "()V"⟩, 29), (⟨"RandomWalksModel", "factor", "()V"⟩, 29), (⟨"RandomWalksModel", "codes", "(II)V"⟩, 29), (⟨"RandomWalksModel", "change", "()V"⟩, 29), (⟨"RandomWalksModel", "get", "(I)I"⟩, 29)]
theorem lw_r4 : ∀ q ∈ lw_privs_4, lw_okq q := List.forall_mem_cons.mpr ⟨lw_p48, List.forall_mem_cons.mpr ⟨lw_p49, List.forall_mem_cons.mpr ⟨lw_p50, List.forall_mem_cons.mpr ⟨lw_p51, List.forall_mem_cons.mpr ⟨lw_p52, List.forall_mem_cons.mpr ⟨lw_p53, List.forall_mem_cons.mpr ⟨lw_p54, List.forall_mem_cons.mpr ⟨lw_p55, List.forall_mem_cons.mpr ⟨lw_p56, List.forall_mem_cons.mpr ⟨lw_p57, List.forall_mem_cons.mpr ⟨lw_p58, List.forall_mem_cons.mpr ⟨lw_p59, List.forall_mem_cons.mpr ⟨lw_p60, List.forall_mem_cons.mpr ⟨lw_p61, List.forall_mem_cons.mpr ⟨lw_p62, List.forall_mem_cons.mpr ⟨lw_p63, fun _ h => absurd h List.not_mem_nil⟩⟩⟩⟩⟩⟩⟩⟩⟩⟩⟩⟩⟩⟩⟩⟩
theorem lw_p64 : lw_okq (⟨"RandomWalksModel", "put", "(II)V"⟩, 29) := ⟨⟨by decide +kernel, by decide +kernel⟩, List.mem_of_getElem? (i := 1146) (by decide +kernel), List.mem_of_getElem? (i := 1349) (by decide +kernel), List.mem_of_getElem? (i := 1350) (by decide +kernel)⟩
theorem lw_p65 : lw_okq (⟨"RandomWalksModel", "numbers", "()V"⟩, 29) := ⟨⟨by decide +kernel, by decide +kernel⟩, List.mem_of_getElem? (i := 1146) (by decide +kernel), List.mem_of_getElem? (i := 1353) (by decide +kernel), List.mem_of_getElem? (i := 1354) (by decide +kernel)⟩
theorem lw_p66 : lw_okq (⟨"RandomWalksModel", "count", "()I"⟩, 29) := ⟨⟨by decide +kernel, by decide +kernel⟩, List.mem_of_getElem? (i := 1146) (by decide +kernel), List.mem_of_getElem? (i := 1357) (by decide +kernel), List.mem_of_getElem? (i := 1358) (by decide +kernel)⟩
theorem lw_p67 : lw_okq (⟨"RandomWalksModel", "isEdge", "(I)Z"⟩, 29) := ⟨⟨by decide +kernel, by decide +kernel⟩, List.mem_of_getElem? (i := 1146) (by decide +kernel), List.mem_of_getElem? (i := 1377) (by decide +kernel), List.mem_of_getElem? (i := 1378) (by decide +kernel)⟩
theorem lw_p68 : lw_okq (⟨"RandomWalksModel", "lays", "()V"⟩, 29) := ⟨⟨by decide +kernel, by decide +kernel⟩, List.mem_of_getElem? (i := 1146) (by decide +kernel), List.mem_of_getElem? (i := 1382) (by decide +kernel), List.mem_of_getElem? (i := 1383) (by decide +kernel)⟩
theorem lw_p69 : lw_okq (⟨"RandomWalksModel", "costOf", "(III)I"⟩, 29) := ⟨⟨by decide +kernel, by decide +kernel⟩, List.mem_of_getElem? (i := 1146) (by decide +kernel), List.mem_of_getElem? (i := 1386) (by decide +kernel), List.mem_of_getElem? (i := 1387) (by decide +kernel)⟩
theorem lw_p70 : lw_okq (⟨"RandomWalksModel", "starts", "(I)Z"⟩, 29) := ⟨⟨by decide +kernel, by decide +kernel⟩, List.mem_of_getElem? (i := 1146) (by decide +kernel), List.mem_of_getElem? (i := 1399) (by decide +kernel), List.mem_of_getElem? (i := 1400) (by decide +kernel)⟩
theorem lw_p71 : lw_okq (⟨"RandomWalksModel", "isVertex", "(I)Z"⟩, 29) := ⟨⟨by decide +kernel, by decide +kernel⟩, List.mem_of_getElem? (i := 1146) (by decide +kernel), List.mem_of_getElem? (i := 1403) (by decide +kernel), List.mem_of_getElem? (i := 1404) (by decide +kernel)⟩
theorem lw_p72 : lw_okq (⟨"RandomWalksModel", "reachedFrom", "(I)I"⟩, 29) := ⟨⟨by decide +kernel, by decide +kernel⟩, List.mem_of_getElem? (i := 1146) (by decide +kernel), List.mem_of_getElem? (i := 1411) (by decide +kernel), List.mem_of_getElem? (i := 1412) (by decide +kernel)⟩
theorem lw_p73 : lw_okq (⟨"RandomWalksModel", "starts2", "(II)Z"⟩, 29) := ⟨⟨by decide +kernel, by decide +kernel⟩, List.mem_of_getElem? (i := 1146) (by decide +kernel), List.mem_of_getElem? (i := 1422) (by decide +kernel), List.mem_of_getElem? (i := 1423) (by decide +kernel)⟩
theorem lw_p74 : lw_okq (⟨"RandomWalksModel", "step", "(II)V"⟩, 29) := ⟨⟨by decide +kernel, by decide +kernel⟩, List.mem_of_getElem? (i := 1146) (by decide +kernel), List.mem_of_getElem? (i := 1426) (by decide +kernel), List.mem_of_getElem? (i := 1427) (by decide +kernel)⟩
theorem lw_p75 : lw_okq (⟨"RandomWalksModel", "fraction", "(JJ)V"⟩, 29) := ⟨⟨by decide +kernel, by decide +kernel⟩, List.mem_of_getElem? (i := 1146) (by decide +kernel), List.mem_of_getElem? (i := 1430) (by decide +kernel), List.mem_of_getElem? (i := 1431) (by decide +kernel)⟩
theorem lw_p76 : lw_okq (⟨"RandomWalksModel", "told", "(Z)J"⟩, 29) := ⟨⟨by decide +kernel, by decide +kernel⟩, List.mem_of_getElem? (i := 1146) (by decide +kernel), List.mem_of_getElem? (i := 1437) (by decide +kernel), List.mem_of_getElem? (i := 1438) (by decide +kernel)⟩
theorem lw_p77 : lw_okq (⟨"RandomWalksModel", "canGo", "(II)Z"⟩, 29) := ⟨⟨by decide +kernel, by decide +kernel⟩, List.mem_of_getElem? (i := 1146) (by decide +kernel), List.mem_of_getElem? (i := 1445) (by decide +kernel), List.mem_of_getElem? (i := 1446) (by decide +kernel)⟩
theorem lw_p78 : lw_okq (⟨"RandomWalksModel", "meanTo", "(IIZ)V"⟩, 29) := ⟨⟨by decide +kernel, by decide +kernel⟩, List.mem_of_getElem? (i := 1146) (by decide +kernel), List.mem_of_getElem? (i := 1449) (by decide +kernel), List.mem_of_getElem? (i := 1450) (by decide +kernel)⟩
theorem lw_p79 : lw_okq (⟨"RandomWalksModel", "begins", "(II)V"⟩, 29) := ⟨⟨by decide +kernel, by decide +kernel⟩, List.mem_of_getElem? (i := 1146) (by decide +kernel), List.mem_of_getElem? (i := 1453) (by decide +kernel), List.mem_of_getElem? (i := 1454) (by decide +kernel)⟩
def lw_privs_5 : List (MethodName × Nat) := [(⟨"RandomWalksModel", "put", "(II)V"⟩, 29), (⟨"RandomWalksModel", "numbers", "()V"⟩, 29), (⟨"RandomWalksModel", "count", "()I"⟩, 29), (⟨"RandomWalksModel", "isEdge", "(I)Z"⟩, 29), (⟨"RandomWalksModel", "lays", "()V"⟩, 29), (⟨"RandomWalksModel", "costOf", "(III)I"⟩, 29), (⟨"RandomWalksModel", "starts", "(I)Z"⟩, 29), (⟨"RandomWalksModel", "isVertex", "(I)Z"⟩, 29), (⟨"RandomWalksModel", "reachedFrom", "(I)I"⟩, 29), (⟨"RandomWalksModel", "starts2", "(II)Z"⟩, 29), (⟨"RandomWalksModel", "step", "(II)V"⟩, 29), (⟨"RandomWalksModel", "fraction", "(JJ)V"⟩, 29), (⟨"RandomWalksModel", "told", "(Z)J"⟩, 29), (⟨"RandomWalksModel", "canGo", "(II)Z"⟩, 29), (⟨"RandomWalksModel", "meanTo", "(IIZ)V"⟩, 29), (⟨"RandomWalksModel", "begins", "(II)V"⟩, 29)]
theorem lw_r5 : ∀ q ∈ lw_privs_5, lw_okq q := List.forall_mem_cons.mpr ⟨lw_p64, List.forall_mem_cons.mpr ⟨lw_p65, List.forall_mem_cons.mpr ⟨lw_p66, List.forall_mem_cons.mpr ⟨lw_p67, List.forall_mem_cons.mpr ⟨lw_p68, List.forall_mem_cons.mpr ⟨lw_p69, List.forall_mem_cons.mpr ⟨lw_p70, List.forall_mem_cons.mpr ⟨lw_p71, List.forall_mem_cons.mpr ⟨lw_p72, List.forall_mem_cons.mpr ⟨lw_p73, List.forall_mem_cons.mpr ⟨lw_p74, List.forall_mem_cons.mpr ⟨lw_p75, List.forall_mem_cons.mpr ⟨lw_p76, List.forall_mem_cons.mpr ⟨lw_p77, List.forall_mem_cons.mpr ⟨lw_p78, List.forall_mem_cons.mpr ⟨lw_p79, fun _ h => absurd h List.not_mem_nil⟩⟩⟩⟩⟩⟩⟩⟩⟩⟩⟩⟩⟩⟩⟩⟩
theorem lw_p80 : lw_okq (⟨"RandomWalksModel", "further", "(IJ)V"⟩, 29) := ⟨⟨by decide +kernel, by decide +kernel⟩, List.mem_of_getElem? (i := 1146) (by decide +kernel), List.mem_of_getElem? (i := 1457) (by decide +kernel), List.mem_of_getElem? (i := 1458) (by decide +kernel)⟩
theorem lw_p81 : lw_okq (⟨"RandomWalksModel", "solves", "(I)V"⟩, 29) := ⟨⟨by decide +kernel, by decide +kernel⟩, List.mem_of_getElem? (i := 1146) (by decide +kernel), List.mem_of_getElem? (i := 1461) (by decide +kernel), List.mem_of_getElem? (i := 1462) (by decide +kernel)⟩
theorem lw_p82 : lw_okq (⟨"RandomWalksModel", "determinantWith", "(I)J"⟩, 29) := ⟨⟨by decide +kernel, by decide +kernel⟩, List.mem_of_getElem? (i := 1146) (by decide +kernel), List.mem_of_getElem? (i := 1465) (by decide +kernel), List.mem_of_getElem? (i := 1466) (by decide +kernel)⟩
theorem lw_p83 : lw_okq (⟨"RandomWalksModel", "determinant", "(I)J"⟩, 29) := ⟨⟨by decide +kernel, by decide +kernel⟩, List.mem_of_getElem? (i := 1146) (by decide +kernel), List.mem_of_getElem? (i := 1469) (by decide +kernel), List.mem_of_getElem? (i := 1470) (by decide +kernel)⟩
theorem lw_p84 : lw_okq (⟨"RandomWalksModel", "commutes", "(II)V"⟩, 29) := ⟨⟨by decide +kernel, by decide +kernel⟩, List.mem_of_getElem? (i := 1146) (by decide +kernel), List.mem_of_getElem? (i := 1481) (by decide +kernel), List.mem_of_getElem? (i := 1482) (by decide +kernel)⟩
theorem lw_p85 : lw_okq (⟨"RandomWalksModel", "treesNow", "()J"⟩, 29) := ⟨⟨by decide +kernel, by decide +kernel⟩, List.mem_of_getElem? (i := 1146) (by decide +kernel), List.mem_of_getElem? (i := 1493) (by decide +kernel), List.mem_of_getElem? (i := 1494) (by decide +kernel)⟩
theorem lw_p86 : lw_okq (⟨"RandomWalksModel", "blocksNow", "()I"⟩, 29) := ⟨⟨by decide +kernel, by decide +kernel⟩, List.mem_of_getElem? (i := 1146) (by decide +kernel), List.mem_of_getElem? (i := 1517) (by decide +kernel), List.mem_of_getElem? (i := 1518) (by decide +kernel)⟩
theorem lw_p87 : lw_okq (⟨"RandomWalksModel", "firstParted", "()I"⟩, 29) := ⟨⟨by decide +kernel, by decide +kernel⟩, List.mem_of_getElem? (i := 1146) (by decide +kernel), List.mem_of_getElem? (i := 1525) (by decide +kernel), List.mem_of_getElem? (i := 1526) (by decide +kernel)⟩
theorem lw_p88 : lw_okq (⟨"RandomWalksModel", "areUnlike", "(III)Z"⟩, 29) := ⟨⟨by decide +kernel, by decide +kernel⟩, List.mem_of_getElem? (i := 1146) (by decide +kernel), List.mem_of_getElem? (i := 1529) (by decide +kernel), List.mem_of_getElem? (i := 1530) (by decide +kernel)⟩
theorem lw_p89 : lw_okq (⟨"RandomWalksModel", "toBlock", "(II)I"⟩, 29) := ⟨⟨by decide +kernel, by decide +kernel⟩, List.mem_of_getElem? (i := 1146) (by decide +kernel), List.mem_of_getElem? (i := 1533) (by decide +kernel), List.mem_of_getElem? (i := 1534) (by decide +kernel)⟩
theorem lw_p90 : lw_okq (⟨"RandomWalksModel", "by", "(I)I"⟩, 29) := ⟨⟨by decide +kernel, by decide +kernel⟩, List.mem_of_getElem? (i := 1146) (by decide +kernel), List.mem_of_getElem? (i := 1537) (by decide +kernel), List.mem_of_getElem? (i := 1538) (by decide +kernel)⟩
theorem lw_p91 : lw_okq (⟨"RandomWalksModel", "areBlocks", "(II)Z"⟩, 29) := ⟨⟨by decide +kernel, by decide +kernel⟩, List.mem_of_getElem? (i := 1146) (by decide +kernel), List.mem_of_getElem? (i := 1549) (by decide +kernel), List.mem_of_getElem? (i := 1550) (by decide +kernel)⟩
theorem lw_p92 : lw_okq (⟨"RandomWalksModel", "firstOf", "(I)I"⟩, 29) := ⟨⟨by decide +kernel, by decide +kernel⟩, List.mem_of_getElem? (i := 1146) (by decide +kernel), List.mem_of_getElem? (i := 1553) (by decide +kernel), List.mem_of_getElem? (i := 1554) (by decide +kernel)⟩
theorem lw_p93 : lw_okq (⟨"RandomWalksModel", "setOf", "(I)I"⟩, 29) := ⟨⟨by decide +kernel, by decide +kernel⟩, List.mem_of_getElem? (i := 1146) (by decide +kernel), List.mem_of_getElem? (i := 1561) (by decide +kernel), List.mem_of_getElem? (i := 1562) (by decide +kernel)⟩
theorem lw_p94 : lw_okq (⟨"RandomWalksModel", "divides", "()V"⟩, 29) := ⟨⟨by decide +kernel, by decide +kernel⟩, List.mem_of_getElem? (i := 1146) (by decide +kernel), List.mem_of_getElem? (i := 1609) (by decide +kernel), List.mem_of_getElem? (i := 1610) (by decide +kernel)⟩
def lw_privs_6 : List (MethodName × Nat) := [(⟨"RandomWalksModel", "further", "(IJ)V"⟩, 29), (⟨"RandomWalksModel", "solves", "(I)V"⟩, 29), (⟨"RandomWalksModel", "determinantWith", "(I)J"⟩, 29), (⟨"RandomWalksModel", "determinant", "(I)J"⟩, 29), (⟨"RandomWalksModel", "commutes", "(II)V"⟩, 29), (⟨"RandomWalksModel", "treesNow", "()J"⟩, 29), (⟨"RandomWalksModel", "blocksNow", "()I"⟩, 29), (⟨"RandomWalksModel", "firstParted", "()I"⟩, 29), (⟨"RandomWalksModel", "areUnlike", "(III)Z"⟩, 29), (⟨"RandomWalksModel", "toBlock", "(II)I"⟩, 29), (⟨"RandomWalksModel", "by", "(I)I"⟩, 29), (⟨"RandomWalksModel", "areBlocks", "(II)Z"⟩, 29), (⟨"RandomWalksModel", "firstOf", "(I)I"⟩, 29), (⟨"RandomWalksModel", "setOf", "(I)I"⟩, 29), (⟨"RandomWalksModel", "divides", "()V"⟩, 29)]
theorem lw_r6 : ∀ q ∈ lw_privs_6, lw_okq q := List.forall_mem_cons.mpr ⟨lw_p80, List.forall_mem_cons.mpr ⟨lw_p81, List.forall_mem_cons.mpr ⟨lw_p82, List.forall_mem_cons.mpr ⟨lw_p83, List.forall_mem_cons.mpr ⟨lw_p84, List.forall_mem_cons.mpr ⟨lw_p85, List.forall_mem_cons.mpr ⟨lw_p86, List.forall_mem_cons.mpr ⟨lw_p87, List.forall_mem_cons.mpr ⟨lw_p88, List.forall_mem_cons.mpr ⟨lw_p89, List.forall_mem_cons.mpr ⟨lw_p90, List.forall_mem_cons.mpr ⟨lw_p91, List.forall_mem_cons.mpr ⟨lw_p92, List.forall_mem_cons.mpr ⟨lw_p93, List.forall_mem_cons.mpr ⟨lw_p94, fun _ h => absurd h List.not_mem_nil⟩⟩⟩⟩⟩⟩⟩⟩⟩⟩⟩⟩⟩⟩⟩
def lw_privs : List (MethodName × Nat) := lw_privs_1 ++ (lw_privs_2 ++ (lw_privs_3 ++ (lw_privs_4 ++ (lw_privs_5 ++ (lw_privs_6)))))
def lw_tbl : List Cond := k2_sels lw_privs ++ tables_1
theorem lw_privs_ok : ∀ q ∈ lw_privs, lw_okq q := by
  show ∀ q ∈ lw_privs_1 ++ (lw_privs_2 ++ (lw_privs_3 ++ (lw_privs_4 ++ (lw_privs_5 ++ (lw_privs_6))))), lw_okq q
  exact List.forall_mem_append.mpr ⟨lw_r1, List.forall_mem_append.mpr ⟨lw_r2, List.forall_mem_append.mpr ⟨lw_r3, List.forall_mem_append.mpr ⟨lw_r4, List.forall_mem_append.mpr ⟨lw_r5, lw_r6⟩⟩⟩⟩⟩
/-- the streams that the claim lets the run draw from -/
abbrev lw_cs : List Choice := [Jvm.Choice.named "NaN.bits"]
theorem lw_bits : nanBits ∈ lw_cs := by first | decide | exact List.mem_cons_self | simp [lw_cs, nanBits]
end
section
/-! ===== BEGIN words of one list among another's, by their places ===== -/
theorem goodIn_r {big : List Cond} (ws : List Cond) (ps : List Nat) (hp : ws = ps.filterMap (fun i => big[i]?)) (h : ws.all goodWord = true) : GoodIn big ws := by
  intro w hw
  have h1 := List.all_eq_true.mp h w hw
  rw [hp] at hw
  obtain ⟨i, -, hi⟩ := List.mem_filterMap.mp hw
  have hm : w ∈ big := by first | exact List.mem_of_getElem? hi | exact List.getElem?_mem hi
  exact ⟨hm, good_of_word h1⟩
theorem goodIn_app {big a b : List Cond} (ha : GoodIn big a) (hb : GoodIn big b) : GoodIn big (a ++ b) := fun w h => (List.mem_append.mp h).elim (ha w) (hb w)
theorem goodIn_ca {big a b : List Cond} {c : Cond} (ha : GoodIn big (c :: a)) (hb : GoodIn big b) : GoodIn big (c :: (a ++ b)) := fun w h => (List.mem_cons.mp h).elim (fun e => ha w (List.mem_cons.mpr (Or.inl e))) (fun h => (List.mem_append.mp h).elim (fun h => ha w (List.mem_cons.mpr (Or.inr h))) (hb w))
theorem goodIn_sub {big ws : List Cond} (hm : ∀ w ∈ ws, w ∈ big) (h : ws.all goodWord = true) : GoodIn big ws := fun w hw => ⟨hm w hw, good_of_word (List.all_eq_true.mp h w hw)⟩
/-! ===== END ===== -/

/-! ===== BEGIN exceptions that leave a method, and their catching by the caller (launches without stack traces) ===== -/
section VXA
/-! The laws vx_back, vx_callV, vx_callS, vx_callSW, vx_throw0, vx_throwS follow proofs of the library, with one case more: JvmDerived/Free/Laws.lean (Back.of_free), Shelf42/LK1.lean (callV, callS), Shelf/KitTraced.lean (throwNew0V, throwNewS). -/
/-- where a method has thrown q: the class by its name, the cell, what was written, the world -/
def vx_T (XC : String → State → State → Prop) (st : State) (q : Addr) (t : State) (mc ms : Nat) (free : Addr → Prop) : Prop :=
  ∃ (E : String) (ce : Cell) (L : List Loc), XC E st t ∧ t.heap[q]? = some ce ∧ ce.vm = .none ∧ st.vm.findClass E = some ce.cls ∧ st.WarmedH t.vm ∧ st.sameButNew ({ t with vm := st.vm } : State) L mc ms ∧ ∀ z ∈ L, free z.base
def vx_Q (Qc : Array Value → State → Outcome → State → Prop) (XC : String → State → State → Prop) (mc ms : Nat) (free : Addr → Prop) : Array Value → State → Outcome → State → Prop := fun a st o t =>
  (Qc a st o t ∧ ∃ L, FrameEnd st o t L mc ms ∧ ∀ q ∈ L, free q.base) ∨ ∃ q, o = .threw q ∧ vx_T XC st q t mc ms free
/-- a callee that returns or throws -/
def vx_Met (l : Launch) (y : MethodName) (ws : List Cond) (rm : Room) (Pc : Array Value → State → Prop) (Qc : Array Value → State → Outcome → State → Prop) (XC : String → State → State → Prop) (mc ms : Nat) (free : Addr → Prop) : Prop :=
  MetFree l y (headSpec ws rm) Pc (fun _ _ _ _ _ => True) (vx_Q Qc XC mc ms free)
def vx_Post (XC : String → State → State → Prop) (mc ms : Nat) (free : Addr → Prop) : Pt → Array Value → Addr → Pt → Prop := fun A a q B =>
  ∃ (g : JFrame) (mk : MethodId) (t : State) (L : List Loc) (E : String) (ce : Cell), B.U.heap = t.heap ∧ B.U.vm = t.vm ∧ XC E (A.U.calling g mk a) t ∧ t.heap[q]? = some ce ∧ ce.vm = .none ∧ A.U.vm.findClass E = some ce.cls ∧ B.locs = A.locs ++ L ∧ (∀ z ∈ L, free z.base) ∧ B.cells = A.cells + mc ∧ B.slots = A.slots + ms
def vx_Back (l : Launch) (R : Room) (p : Program) (e : Env) (below : List Frame) (s : State) (sargs : Array Value) (y : MethodName) (len W9 : Nat)
    (Pre : Pt → Array Value → Prop) (Post : Pt → Array Value → Option Value → Pt → Prop) (PostX : Pt → Array Value → Addr → Pt → Prop) : Prop :=
  ∀ (m : MethodId) (meth : Method) (c : Code) (A : Pt) (g : JFrame) (ig : Instr) (mk : MethodId) (a : Array Value),
    Stand p l e R s m sargs below meth c A.U A.locs A.cells A.slots → g.method = m → g.locals.size = c.maxLocals → decode c.code g.pc = .ok (ig, len) →
    2 * g.monitorRoom + (g.stack.map fun v => v.category).sum ≤ W9 → A.U.methodNamed? y = some mk → Pre A a →
    (∃ (v : Option Value) (B : Pt), Stand p l e R s m sargs below meth c B.U B.locs B.cells B.slots ∧ Post A a v B ∧
      Steps p.tables e below (doInvoke e (A.U.setTop g) [] mk a).1 (B.U.setTop { g with pc := g.pc + len, stack := v.toList ++ g.stack })) ∨
    (∃ (q : Addr) (B : Pt), Stand p l e R s m sargs below meth c B.U B.locs B.cells B.slots ∧ PostX A a q B ∧
      Steps p.tables e below (doInvoke e (A.U.setTop g) [] mk a).1 ((B.U.setTop g).pushFrame (.throwing q)))
section Payer
variable {l : Launch} {R : Room} {p : Program} {e : Env} {below : List Frame} {s : State} {sargs : Array Value} {y : MethodName} {len W9 : Nat}
theorem vx_back {ws : List Cond} {rm : Room} {Pc : Array Value → State → Prop} {Qc : Array Value → State → Outcome → State → Prop} {XC : String → State → State → Prop} {mc ms : Nat} {free : Addr → Prop} {bytes : ByteArray} {maxL : Nat} {ret : Option FieldType}
    (hM : vx_Met l y ws rm Pc Qc XC mc ms free) (hblind : FrameBlind Pc) (hrc : rm.cells = mc) (hrs : rm.slots = ms)
    (hframes : rm.frames + 1 ≤ R.frames) (hlocals : W9 + (maxL + 11) + rm.locals ≤ R.locals)
    (hws : ∀ w ∈ ws, ∀ a' U, s.WarmedH U.vm → w.before a' U = true) (hcode : Cond.code y bytes maxL ret ∈ ws) (hinit : ∀ a' U, s.WarmedH U.vm → (Cond.initialized y.cls).before a' U = true) :
    vx_Back l R p e below s sargs y len W9 (PreOf R mc ms Pc) (PostOf Qc mc ms free) (vx_Post XC mc ms free) := by
  intro m meth c A g ig mk a X hg hsize hdg hW hn hp
  have h1 : (headSpec ws rm).pre.before a A.U = true := atoms_intro fun w hw => hws w hw _ _ X.warmed
  have h2 : (Cond.code y bytes maxL ret).before a A.U = true := hws _ hcode _ _ X.warmed
  have h3 : (Cond.initialized y.cls).before a A.U = true := hinit _ _ X.warmed
  have h4 : A.cells + (headSpec ws rm).room.cells ≤ R.cells := by rw [show (headSpec ws rm).room.cells = mc from hrc]; exact hp.1
  have h5 : A.slots + (headSpec ws rm).room.slots ≤ R.slots := by rw [show (headSpec ws rm).room.slots = ms from hrs]; exact hp.2.1
  have hPc : Pc a (A.U.calling g mk a) := hblind _ _ _ _ hp.2.2
  obtain ⟨U, Ls, c0, s0⟩ := A
  dsimp only [Pt.U, Pt.locs, Pt.cells, Pt.slots] at h1 h2 h3 h4 h5 X hn hPc ⊢
  obtain ⟨methY, cY, hmY, hcY, -, hlY, -, -, -, -⟩ := Cond.code_spec hn h2
  obtain ⟨kY, hkY, -⟩ := className_of_methodNamed hn
  have hinitY : kY.init = .initialized := Cond.initialized_spec (findClass_of_methodNamed hn) hkY h3
  have h : At U g.method c below := by rw [hg]; exact X.here
  have hlocals9 : W9 + (maxL + 11) + (headSpec ws rm).room.locals ≤ R.locals := hlocals
  have happ : (headSpec ws rm).appliesLoose y e.platform (U.calling g mk a) = true :=
    Spec.appliesLoose_calling (g := g) h hdg hn hkY hinitY
      (X.room_calling (g := g) (R' := (headSpec ws rm).room) hsize hmY hcY hframes (by rw [hlY]; omega) h4 h5) h1
  obtain ⟨mid, hmid⟩ := h.above
  have hfr : (U.setTop g).frames = (.java g :: mid) ++ below := by rw [State.frames_setTop' g h.top, hmid]; rfl
  obtain ⟨o, s₂, hsteps, -, hend, hq⟩ := Steps.callFree hM p X.admits X.cas X.clock (acts := []) hfr happ hPc trivial
  have hq' : vx_Q Qc XC mc ms free a (U.calling g mk a) o s₂ := hq
  rw [State.frames_setTop' g h.top] at hend
  obtain ⟨g₀, hg0⟩ := Option.isSome_iff_exists.mp h.top
  obtain ⟨r, hr⟩ := State.topJava?_eq_some.mp hg0
  have hr' : (({ U with heap := s₂.heap, slotsUsed := s₂.slotsUsed } : State).setVm s₂.vm).frames = .java g₀ :: r := hr
  rcases hq' with ⟨hqc, L, hfe, hL⟩ | ⟨q, rfl, E, ce, L, hx, hce, hcv, hcl, hW₂, hsm, hL⟩
  · obtain ⟨⟨v, rfl⟩, hW₂, e2, q2, q3, q4, q5, q6⟩ := id hfe
    have e3 : s₂ = ({ (U.calling g mk a).setFrames s₂.frames with heap := s₂.heap, slotsUsed := s₂.slotsUsed } : State).setVm s₂.vm := by
      have : s₂ = ({ s₂ with vm := (U.calling g mk a).vm } : State).setVm s₂.vm := rfl
      rw [e2] at this
      exact this
    obtain ⟨c₂, i₂, len₂, hc₂, hd₂, hf₂⟩ := hend
    have hW' : U.WarmedH s₂.vm := hW₂
    have hcc : c₂ = c := by
      have h1 : s₂.code? g.method = U.code? g.method := by
        rw [State.code?_eq, State.code?_eq, hW'.alike.method?]
      exact Option.some.inj (hc₂.symm.trans (h1.trans h.code))
    subst hcc
    have hlen : len₂ = len := by rw [hdg] at hd₂; cases hd₂; rfl
    subst hlen
    have hs₂ : s₂ = (({ U with heap := s₂.heap, slotsUsed := s₂.slotsUsed } : State).setVm s₂.vm).setTop { g with pc := g.pc + len₂, stack := v.toList ++ g.stack } := by
      refine e3.trans ?_
      rw [hf₂, State.calling_eq h.top, State.setFrames_setFrames, State.setTop_of_frames _ hr', hr]
      rfl
    have hsame : U.sameButNew ({ U with heap := s₂.heap, slotsUsed := s₂.slotsUsed } : State) L mc ms := by
      refine ⟨?_, q2, q3, q4, q5, q6⟩
      obtain ⟨t, ht, -⟩ := State.frames_cons hr
      show ({ U with heap := s₂.heap, slotsUsed := s₂.slotsUsed } : State) = { U.setFrames U.frames with heap := s₂.heap, slotsUsed := s₂.slotsUsed }
      rw [State.setFrames_self ht]
    subst hg
    refine Or.inl ⟨v, ⟨(({ U with heap := s₂.heap, slotsUsed := s₂.slotsUsed } : State).setVm s₂.vm), Ls ++ L, c0 + mc, s0 + ms⟩,
      ⟨X.admits, X.cas, X.clock, X.frames, X.room, X.hears, X.method, X.code, (X.here.setHeapUsed s₂.heap s₂.slotsUsed).setVm hW'.alike, X.tail, State.WarmedH.trans X.warmed hW', X.limits, X.bytes, X.same.trans (hsame.setVm s.vm)⟩,
      ⟨g, mk, s₂, L, rfl, rfl, hqc, rfl, hL, rfl, rfl⟩, ?_⟩
    show Steps p.tables e below _ ((({ U with heap := s₂.heap, slotsUsed := s₂.slotsUsed } : State).setVm s₂.vm).setTop { g with pc := g.pc + len₂, stack := v.toList ++ g.stack })
    rw [← hs₂]
    exact hsteps
  · obtain ⟨e2, q2, q3, q4, q5, q6⟩ := id hsm
    have e3 : s₂ = ({ (U.calling g mk a).setFrames s₂.frames with heap := s₂.heap, slotsUsed := s₂.slotsUsed } : State).setVm s₂.vm := by
      have : s₂ = ({ s₂ with vm := (U.calling g mk a).vm } : State).setVm s₂.vm := rfl
      rw [e2] at this
      exact this
    have hf₂ : s₂.frames = .throwing q :: .java g :: U.frames.tail := hend
    have hW' : U.WarmedH s₂.vm := hW₂
    have hs₂ : s₂ = ((({ U with heap := s₂.heap, slotsUsed := s₂.slotsUsed } : State).setVm s₂.vm).setTop g).pushFrame (.throwing q) := by
      refine e3.trans ?_
      rw [hf₂, State.calling_eq h.top, State.setFrames_setFrames, State.pushFrame, State.frames_setTop _ hr', State.setTop_of_frames _ hr', State.setFrames_setFrames, hr]
      rfl
    have hsame : U.sameButNew ({ U with heap := s₂.heap, slotsUsed := s₂.slotsUsed } : State) L mc ms := by
      refine ⟨?_, q2, q3, q4, q5, q6⟩
      obtain ⟨t, ht, -⟩ := State.frames_cons hr
      show ({ U with heap := s₂.heap, slotsUsed := s₂.slotsUsed } : State) = { U.setFrames U.frames with heap := s₂.heap, slotsUsed := s₂.slotsUsed }
      rw [State.setFrames_self ht]
    subst hg
    refine Or.inr ⟨q, ⟨(({ U with heap := s₂.heap, slotsUsed := s₂.slotsUsed } : State).setVm s₂.vm), Ls ++ L, c0 + mc, s0 + ms⟩,
      ⟨X.admits, X.cas, X.clock, X.frames, X.room, X.hears, X.method, X.code, (X.here.setHeapUsed s₂.heap s₂.slotsUsed).setVm hW'.alike, X.tail, State.WarmedH.trans X.warmed hW', X.limits, X.bytes, X.same.trans (hsame.setVm s.vm)⟩,
      ⟨g, mk, s₂, L, E, ce, rfl, rfl, hx, hce, hcv, hcl, rfl, hL, rfl, rfl⟩, ?_⟩
    show Steps p.tables e below _ (((({ U with heap := s₂.heap, slotsUsed := s₂.slotsUsed } : State).setVm s₂.vm).setTop g).pushFrame (.throwing q))
    rw [← hs₂]
    exact hsteps
end Payer
section Calls
variable {p : Program} {l : Launch} {e : Env} {R : Room} {s : State} {m : MethodId} {args : Array Value} {below : List Frame} {meth : Method} {c : Code} {T : State} {locs : List Loc} {cells slots : Nat}
theorem vx_callV (X : Stand p l e R s m args below meth c T locs cells slots) (hexec : p.tables.exec = Jvm.exec) {own C : String} {index : Nat} {y : MethodName} {bytes : ByteArray} {maxL : Nat} {ret : Option FieldType}
    (hown : s.vm.findClass own = some m.cls) (hlink : (Cond.methodLink own index y).before args s = true) (hinst : (Cond.instanceMethod y).before args s = true) (hsel : (Cond.selects C y y).before args s = true)
    (hcode : (Cond.code y bytes maxL ret).before args s = true) (hy : y.cls ≠ "java/lang/invoke/MethodHandle" ∧ y.cls ≠ "java/lang/invoke/VarHandle")
    {W9 : Nat} {Pre : Pt → Array Value → Prop} {Post : Pt → Array Value → Option Value → Pt → Prop} {PostX : Pt → Array Value → Addr → Pt → Prop} (hK : vx_Back l R p e below s args y 3 W9 Pre Post PostX)
    {b : Addr} {cellB : Cell} (hcell : T.heap[b]? = some cellB) (hobj : cellB.vm.isStatics = false) (hcls : s.vm.findClass C = some cellB.cls)
    {g : JFrame} (hg : g.method = m) (hsize : g.locals.size = c.maxLocals) {argsL rest : List Value} (hlen : ∀ sig, parseMethodDescriptor y.desc = some sig → argsL.length = sig.parameters.length)
    (hstack : g.stack = argsL.reverse ++ .ref b :: rest) (hW : 2 * g.monitorRoom + (rest.map fun v => v.category).sum ≤ W9) (hdg : decode c.code g.pc = .ok (.invokevirtual index, 3))
    (hpre : ∀ vm₁, s.WarmedH vm₁ → Pre ⟨T.setVm vm₁, locs, cells, slots⟩ (Value.ref b :: argsL).toArray) :
    (∃ (v : Option Value) (vm₁ : Vm) (B : Pt), s.WarmedH vm₁ ∧ Stand p l e R s m args below meth c B.U B.locs B.cells B.slots ∧ Post ⟨T.setVm vm₁, locs, cells, slots⟩ (Value.ref b :: argsL).toArray v B ∧
      ∀ target, Steps p.tables e below (B.U.setTop { g with pc := g.pc + 3, stack := v.toList ++ rest }) target → Steps p.tables e below (T.setTop g) target) ∨
    (∃ (q : Addr) (vm₁ : Vm) (B : Pt), s.WarmedH vm₁ ∧ Stand p l e R s m args below meth c B.U B.locs B.cells B.slots ∧ PostX ⟨T.setVm vm₁, locs, cells, slots⟩ (Value.ref b :: argsL).toArray q B ∧
      Steps p.tables e below (T.setTop g) ((B.U.setTop { g with stack := rest }).pushFrame (.throwing q))) := by
  obtain ⟨mk, methM, hnamed, hmethM, hstM, habM⟩ := Cond.instanceMethod_spec hinst
  obtain ⟨methM', cM, hmethM', -, -, -, -, -, -, hsigM⟩ := Cond.code_spec hnamed hcode
  cases hmethM.symm.trans hmethM'
  obtain ⟨c2, r2, m2, q1, q2, q3, q4, kP, hkP, hkPi⟩ := Cond.selects_spec hsel
  cases hcls.symm.trans q1
  cases (State.methodFound?_of_named hnamed hy).symm.trans q2
  cases hnamed.symm.trans q3
  have hselP : selectMethod e.platform s.vm cellB.cls mk = .method mk := by rw [Launch.admits_selectMethod X.admits]; exact q4
  obtain ⟨vm₁, X₁, hstep₁⟩ := X.invokevirtual hexec hown hlink hnamed hmethM hstM hkP hkPi hy (a := b) (cell := cellB) hcell
    (fun z h => by rw [h] at hobj; cases hobj) hselP hmethM habM hkP hkPi (g := g) hg (argsL := argsL) (rest := rest) (hlen _ hsigM) hstack hdg
  rcases hK m meth c ⟨T.setVm vm₁, locs, cells, slots⟩ { g with stack := rest } (.invokevirtual index) mk (Value.ref b :: argsL).toArray X₁ hg hsize hdg hW (X₁.named hnamed) (hpre vm₁ X₁.warmed) with ⟨v, B, X', hpost, hsteps⟩ | ⟨q, B, X', hpost, hsteps⟩
  · exact Or.inl ⟨v, vm₁, B, X₁.warmed, X', hpost, fun target h => hstep₁ _ fun acts => by rw [doInvoke_state]; exact hsteps.trans h⟩
  · exact Or.inr ⟨q, vm₁, B, X₁.warmed, X', hpost, hstep₁ _ fun acts => by rw [doInvoke_state]; exact hsteps⟩
theorem vx_callS (X : Stand p l e R s m args below meth c T locs cells slots) (hexec : p.tables.exec = Jvm.exec) {own : String} {index : Nat} {y : MethodName} {bytes : ByteArray} {maxL : Nat} {ret : Option FieldType}
    (hown : s.vm.findClass own = some m.cls) (hlink : (Cond.methodLink own index y).before args s = true) (hstat : (Cond.static y).before args s = true) (hinit : (Cond.initialized y.cls).before args s = true)
    (hcode : (Cond.code y bytes maxL ret).before args s = true) (hy : y.cls ≠ "java/lang/invoke/MethodHandle" ∧ y.cls ≠ "java/lang/invoke/VarHandle")
    {W9 : Nat} {Pre : Pt → Array Value → Prop} {Post : Pt → Array Value → Option Value → Pt → Prop} {PostX : Pt → Array Value → Addr → Pt → Prop} (hK : vx_Back l R p e below s args y 3 W9 Pre Post PostX)
    {g : JFrame} (hg : g.method = m) (hsize : g.locals.size = c.maxLocals) {argsL rest : List Value} (hlen : ∀ sig, parseMethodDescriptor y.desc = some sig → argsL.length = sig.parameters.length)
    (hstack : g.stack = argsL.reverse ++ rest) (hW : 2 * g.monitorRoom + (rest.map fun v => v.category).sum ≤ W9) (hdg : decode c.code g.pc = .ok (.invokestatic index, 3))
    (hpre : ∀ vm₁, s.WarmedH vm₁ → Pre ⟨T.setVm vm₁, locs, cells, slots⟩ argsL.toArray) :
    (∃ (v : Option Value) (vm₁ : Vm) (B : Pt), s.WarmedH vm₁ ∧ Stand p l e R s m args below meth c B.U B.locs B.cells B.slots ∧ Post ⟨T.setVm vm₁, locs, cells, slots⟩ argsL.toArray v B ∧
      ∀ target, Steps p.tables e below (B.U.setTop { g with pc := g.pc + 3, stack := v.toList ++ rest }) target → Steps p.tables e below (T.setTop g) target) ∨
    (∃ (q : Addr) (vm₁ : Vm) (B : Pt), s.WarmedH vm₁ ∧ Stand p l e R s m args below meth c B.U B.locs B.cells B.slots ∧ PostX ⟨T.setVm vm₁, locs, cells, slots⟩ argsL.toArray q B ∧
      Steps p.tables e below (T.setTop g) ((B.U.setTop { g with stack := rest }).pushFrame (.throwing q))) := by
  obtain ⟨mk, hnamed⟩ := Cond.code_named hcode
  obtain ⟨methM, cM, hmethM, -, -, -, -, -, -, hsigM⟩ := Cond.code_spec hnamed hcode
  have hstatic : methM.isStatic = true := Cond.static_spec hnamed hmethM hstat
  obtain ⟨kP, hkP, -⟩ := className_of_methodNamed hnamed
  have hinitP : kP.init = .initialized := Cond.initialized_spec (findClass_of_methodNamed hnamed) hkP hinit
  obtain ⟨vm₁, X₁, hstep₁⟩ := X.invokestatic hexec hown hlink hnamed hmethM hstatic hkP hinitP hy (g := g) hg (argsL := argsL) (rest := rest) (hlen _ hsigM) hstack hdg
  rcases hK m meth c ⟨T.setVm vm₁, locs, cells, slots⟩ { g with stack := rest } (.invokestatic index) mk argsL.toArray X₁ hg hsize hdg hW (X₁.named hnamed) (hpre vm₁ X₁.warmed) with ⟨v, B, X', hpost, hsteps⟩ | ⟨q, B, X', hpost, hsteps⟩
  · exact Or.inl ⟨v, vm₁, B, X₁.warmed, X', hpost, fun target h => hstep₁ _ fun acts => by rw [doInvoke_state]; exact hsteps.trans h⟩
  · exact Or.inr ⟨q, vm₁, B, X₁.warmed, X', hpost, hstep₁ _ fun acts => by rw [doInvoke_state]; exact hsteps⟩
end Calls
theorem vx_cls {s : State} {T : State} {vm₁ : Vm} {E : String} {k : ClassId} (hW : s.WarmedH vm₁) (h : (T.setVm vm₁).vm.findClass E = some k) : s.vm.findClass E = some k := by
  have h1 : vm₁.findClass E = some k := h
  rw [hW.alike.findClass] at h1
  exact h1
/-- the method's frame g, with q thrown over it -/
def vx_W (p : Program) (l : Launch) (e : Env) (R : Room) (s : State) (m : MethodId) (args : Array Value) (below : List Frame) (meth : Method) (c : Code) (H : Heap) (locs : List Loc) (cells slots : Nat) (Q : State → Prop) (g : JFrame) (q : Addr) : Prop :=
  ∀ T : State, T.heap = H → Stand p l e R s m args below meth c T locs cells slots → ∃ t, Steps p.tables e below ((T.setTop g).pushFrame (.throwing q)) t ∧ Q t
def vx_Run (p : Program) (l : Launch) (e : Env) (R : Room) (s : State) (m : MethodId) (args : Array Value) (below : List Frame) (meth : Method) (c : Code) (H : Heap) (locs : List Loc) (cells slots mc ms : Nat) (g : JFrame) (rest : List Value) (Qa : State → Outcome → State → Prop) (XC : String → State → State → Prop) (free : Addr → Prop) : Prop :=
  ∀ T : State, T.heap = H → Stand p l e R s m args below meth c T locs cells slots →
    (∃ (v : Option Value) (st₀ t T' : State) (L : List Loc), st₀.heap = H ∧ Stand p l e R s m args below meth c T' (locs ++ L) (cells + mc) (slots + ms) ∧ (∀ q ∈ L, free q.base) ∧ T'.heap = t.heap ∧ T'.vm = t.vm ∧ Qa st₀ (.returned v) t ∧
      Goes p e below T g T' { g with pc := g.pc + 3, stack := v.toList ++ rest }) ∨
    (∃ (q : Addr) (st₀ t T' : State) (L : List Loc) (E : String) (ce : Cell), st₀.heap = H ∧ Stand p l e R s m args below meth c T' (locs ++ L) (cells + mc) (slots + ms) ∧ (∀ z ∈ L, free z.base) ∧ T'.heap = t.heap ∧ T'.vm = t.vm ∧ XC E st₀ t ∧ t.heap[q]? = some ce ∧ ce.vm = .none ∧ s.vm.findClass E = some ce.cls ∧
      Steps p.tables e below (T.setTop g) ((T'.setTop { g with stack := rest }).pushFrame (.throwing q)))
def vx_X {S : Type} (px : S → Prop) (B : String → S → State → Prop) (A : Nat → Prop) : String → State → State → Prop := fun E st t => ∃ u : S, px u ∧ B E u t ∧ va_F A st t
section Runs
variable {p : Program} {l : Launch} {e : Env} {R : Room} {s : State} {m : MethodId} {args : Array Value} {below : List Frame} {meth : Method} {c : Code} {H : Heap} {locs : List Loc} {cells slots : Nat}
variable {y : MethodName} {bytes cc : ByteArray} {maxL nL mc ms n index : Nat} {ret : Option FieldType} {ws : List Cond} {rm : Room} {Pc : Array Value → State → Prop} {Qc : Array Value → State → Outcome → State → Prop} {XC : String → State → State → Prop} {free : Addr → Prop} {Ts : List Cond} {own C : String} {b : Addr} {As rest : List Value} {g : JFrame}
theorem vx_callBack (cb : CallB R s args own index y bytes maxL ret ws rm mc ms n) (hM : vx_Met l y ws rm Pc Qc XC mc ms free) (hbl : FrameBlind Pc) : vx_Back l R p e below s args y 3 8 (PreOf R mc ms Pc) (PostOf Qc mc ms free) (vx_Post XC mc ms free) := by
  obtain ⟨hrc, hrs, hfr, hlo, hws, hcw, -, hini, -⟩ := cb
  exact vx_back (bytes := bytes) (maxL := maxL) (ret := ret) hM hbl hrc hrs hfr hlo hws hcw (fun a' U hW => word_at hW (Or.inl (by first | rfl | simp [Cond.onTables, Cond.keeps, Cond.steady])) hini)
theorem vx_runV (S : CallFix p m c cc nL s args Ts own) (hM : vx_Met l y ws rm Pc Qc XC mc ms free) (cw : CallW R s args own C index y bytes maxL ret ws rm mc ms n) (hp : PreV s H C b Pc As)
    (hg : g.method = m) (hn : As.length = n) (hsize : g.locals.size = nL) (hstack : g.stack = As.reverse ++ .ref b :: rest) (hW : 2 * g.monitorRoom + (rest.map fun v => v.category).sum ≤ 8) (hdg : decode cc g.pc = .ok (.invokevirtual index, 3)) (hf : cells + mc ≤ R.cells ∧ slots + ms ≤ R.slots) :
    vx_Run p l e R s m args below meth c H locs cells slots mc ms g rest (Qc (Value.ref b :: As).toArray) XC free := by
  have hK : vx_Back l R p e below s args y 3 8 (PreOf R mc ms Pc) (PostOf Qc mc ms free) (vx_Post XC mc ms free) := vx_callBack cw.1 hM hp.1
  obtain ⟨⟨-, -, -, -, -, -, hcode, -, hy, hlen, hl⟩, hin, hse⟩ := cw
  obtain ⟨hx, hb, hml, ho, -⟩ := S
  obtain ⟨-, ⟨cellB, hcB, hoB, hclB⟩, hPc⟩ := hp
  intro T hT X
  rcases vx_callV X hx (C := C) (bytes := bytes) (maxL := maxL) (ret := ret) ho hl hin hse hcode hy hK (by rw [hT]; exact hcB) hoB hclB hg (hsize.trans hml.symm) (argsL := As) (rest := rest) (fun sig h => hn.trans (hlen sig h)) hstack hW (by rw [hb]; exact hdg)
    (fun vm₁ hW₁ => ⟨hf.1, hf.2, hPc (T.setVm vm₁) hT hW₁⟩) with ⟨v, vm₁, ⟨U', l2, c2, s2⟩, hW₁, X', ⟨g', mk, t, L, e1, e2, hq, h1, hL, h2, h3⟩, st⟩ | ⟨q, vm₁, ⟨U', l2, c2, s2⟩, hW₁, X', ⟨g', mk, t, L, E, ce, e1, e2, hq, hce, hcv, hcl, h1, hL, h2, h3⟩, st⟩
  · dsimp only [Pt.U, Pt.locs, Pt.cells, Pt.slots] at X' e1 e2 h1 h2 h3 st
    subst h1; subst h2; subst h3
    exact Or.inl ⟨v, (T.setVm vm₁).calling g' mk (Value.ref b :: As).toArray, t, U', L, hT, X', hL, e1, e2, hq, st⟩
  · dsimp only [Pt.U, Pt.locs, Pt.cells, Pt.slots] at X' e1 e2 h1 h2 h3 st hcl
    subst h1; subst h2; subst h3
    exact Or.inr ⟨q, (T.setVm vm₁).calling g' mk (Value.ref b :: As).toArray, t, U', L, E, ce, hT, X', hL, e1, e2, hq, hce, hcv, vx_cls hW₁ hcl, st⟩
theorem vx_runS (S : CallFix p m c cc nL s args Ts own) (hM : vx_Met l y ws rm Pc Qc XC mc ms free) (cw : CallB R s args own index y bytes maxL ret ws rm mc ms n ∧ (Cond.static y).before args s = true) (hp : PreS s H Pc As)
    (hg : g.method = m) (hn : As.length = n) (hsize : g.locals.size = nL) (hstack : g.stack = As.reverse ++ rest) (hW : 2 * g.monitorRoom + (rest.map fun v => v.category).sum ≤ 8) (hdg : decode cc g.pc = .ok (.invokestatic index, 3)) (hf : cells + mc ≤ R.cells ∧ slots + ms ≤ R.slots) :
    vx_Run p l e R s m args below meth c H locs cells slots mc ms g rest (Qc As.toArray) XC free := by
  have hK : vx_Back l R p e below s args y 3 8 (PreOf R mc ms Pc) (PostOf Qc mc ms free) (vx_Post XC mc ms free) := vx_callBack cw.1 hM hp.1
  obtain ⟨⟨-, -, -, -, -, -, hcode, hini, hy, hlen, hl⟩, hstt⟩ := cw
  obtain ⟨hx, hb, hml, ho, -⟩ := S
  intro T hT X
  rcases vx_callS X hx (bytes := bytes) (maxL := maxL) (ret := ret) ho hl hstt hini hcode hy hK hg (hsize.trans hml.symm) (argsL := As) (rest := rest) (fun sig h => hn.trans (hlen sig h)) hstack hW (by rw [hb]; exact hdg)
    (fun vm₁ hW₁ => ⟨hf.1, hf.2, hp.2 (T.setVm vm₁) hT hW₁⟩) with ⟨v, vm₁, ⟨U', l2, c2, s2⟩, hW₁, X', ⟨g', mk, t, L, e1, e2, hq, h1, hL, h2, h3⟩, st⟩ | ⟨q, vm₁, ⟨U', l2, c2, s2⟩, hW₁, X', ⟨g', mk, t, L, E, ce, e1, e2, hq, hce, hcv, hcl, h1, hL, h2, h3⟩, st⟩
  · dsimp only [Pt.U, Pt.locs, Pt.cells, Pt.slots] at X' e1 e2 h1 h2 h3 st
    subst h1; subst h2; subst h3
    exact Or.inl ⟨v, (T.setVm vm₁).calling g' mk As.toArray, t, U', L, hT, X', hL, e1, e2, hq, st⟩
  · dsimp only [Pt.U, Pt.locs, Pt.cells, Pt.slots] at X' e1 e2 h1 h2 h3 st hcl
    subst h1; subst h2; subst h3
    exact Or.inr ⟨q, (T.setVm vm₁).calling g' mk As.toArray, t, U', L, E, ce, hT, X', hL, e1, e2, hq, hce, hcv, vx_cls hW₁ hcl, st⟩
end Runs
section Rows
variable {p : Program} {l : Launch} {e : Env} {R : Room} {s : State} {m : MethodId} {args : Array Value} {below : List Frame} {meth : Method} {c : Code} {H : Heap} {locs : List Loc} {cells slots : Nat} {Q : State → Prop}
variable {mc ms : Nat} {free : Addr → Prop} {A0 A1 : Nat → Prop} {H0 : Heap} {a : Array Value} {pc : Nat} {ls : Array Slot} {st0 rest : List Value}
theorem vx_keep {st₀ t T' : State} {L : List Loc} (h0 : st₀.heap = H) (e1 : T'.heap = t.heap) (hS : va_S A0 H0 H locs) (hA : ∀ q, q < H.size → A1 q → A0 q) (hf : ∀ q, free q → A0 q) (hL : ∀ q ∈ L, free q.base) (hF : va_F A1 st₀ t) :
    H.size ≤ T'.heap.size ∧ (∀ q : Nat, q < H.size → ¬ A1 q → T'.heap[q]? = H[q]?) ∧ va_S A0 H0 T'.heap (locs ++ L) := by
  obtain ⟨hz, hk⟩ := hF
  rw [h0] at hz hk
  exact ⟨by rw [e1]; exact hz, fun q h1 h2 => by rw [e1]; exact hk q h1 h2,
    ⟨Nat.le_trans hS.1 (by rw [e1]; exact hz), fun q h1 h2 => by rw [e1, hk q (Nat.lt_of_lt_of_le h1 hS.1) (fun z => h2 (hA q (Nat.lt_of_lt_of_le h1 hS.1) z))]; exact hS.2.1 q h1 h2, fun q hq => by
      rcases List.mem_append.mp hq with h | h
      · exact hS.2.2 q h
      · exact hf _ (hL q h)⟩⟩
theorem vx_calli {S SX : Type} {post : Int32 → S → Prop} {px : SX → Prop} {B : S → State → Prop} {BX : String → SX → State → Prop} {AX : Nat → Prop} (hr : vx_Run p l e R s m args below meth c H locs cells slots mc ms (F0 m pc ls st0) rest (va_Qi post B A1 a) (vx_X px BX AX) free) (hS : va_S A0 H0 H locs) (hA : ∀ q, q < H.size → A1 q → A0 q) (hf : ∀ q, free q → A0 q) (hAX : ∀ q, q < H.size → AX q → A0 q)
    (kx : ∀ (E : String) (ce : Cell) (q9 : Addr) (u : SX) (t : State) (H1 : Heap) (locs1 : List Loc), t.heap = H1 → s.vm.Alike t.vm → px u → BX E u t → H.size ≤ H1.size → (∀ q : Nat, q < H.size → ¬ AX q → H1[q]? = H[q]?) → va_S A0 H0 H1 locs1 → H1[q9]? = some ce → ce.vm = .none → s.vm.findClass E = some ce.cls → vx_W p l e R s m args below meth c H1 locs1 (cells + mc) (slots + ms) Q (F0 m pc ls rest) q9)
    (kk : ∀ (r : Int32) (u : S) (t : State) (H1 : Heap) (locs1 : List Loc), t.heap = H1 → s.vm.Alike t.vm → post r u → B u t → H.size ≤ H1.size → (∀ q : Nat, q < H.size → ¬ A1 q → H1[q]? = H[q]?) → va_S A0 H0 H1 locs1 → W p l e R s m args below meth c H1 locs1 (cells + mc) (slots + ms) Q (F0 m (pc + 3) ls (.int r :: rest))) : W p l e R s m args below meth c H locs cells slots Q (F0 m pc ls st0) := by
  intro T hT X
  rcases hr T hT X with ⟨v, st₀, t, T', L, h0, X', hL, e1, e2, ⟨⟨r, u, hv, hp, hb⟩, hF⟩, st⟩ | ⟨q, st₀, t, T', L, E, ce, h0, X', hL, e1, e2, ⟨u, hp, hb, hF⟩, hce, hcv, hcl, st⟩
  · cases hv
    obtain ⟨k1, k2, k3⟩ := vx_keep h0 e1 hS hA hf hL hF
    obtain ⟨t2, a1, b1⟩ := kk r u t T'.heap (locs ++ L) e1.symm (by rw [← e2]; exact X'.warmed.alike) hp hb k1 k2 k3 T' rfl X'
    exact ⟨t2, st t2 a1, b1⟩
  · obtain ⟨k1, k2, k3⟩ := vx_keep h0 e1 hS hAX hf hL hF
    obtain ⟨t2, a1, b1⟩ := kx E ce q u t T'.heap (locs ++ L) e1.symm (by rw [← e2]; exact X'.warmed.alike) hp hb k1 k2 k3 (by rw [e1]; exact hce) hcv hcl T' rfl X'
    exact ⟨t2, st.trans a1, b1⟩
theorem vx_calll {S SX : Type} {post : Int64 → S → Prop} {px : SX → Prop} {B : S → State → Prop} {BX : String → SX → State → Prop} {AX : Nat → Prop} (hr : vx_Run p l e R s m args below meth c H locs cells slots mc ms (F0 m pc ls st0) rest (va_Ql post B A1 a) (vx_X px BX AX) free) (hS : va_S A0 H0 H locs) (hA : ∀ q, q < H.size → A1 q → A0 q) (hf : ∀ q, free q → A0 q) (hAX : ∀ q, q < H.size → AX q → A0 q)
    (kx : ∀ (E : String) (ce : Cell) (q9 : Addr) (u : SX) (t : State) (H1 : Heap) (locs1 : List Loc), t.heap = H1 → s.vm.Alike t.vm → px u → BX E u t → H.size ≤ H1.size → (∀ q : Nat, q < H.size → ¬ AX q → H1[q]? = H[q]?) → va_S A0 H0 H1 locs1 → H1[q9]? = some ce → ce.vm = .none → s.vm.findClass E = some ce.cls → vx_W p l e R s m args below meth c H1 locs1 (cells + mc) (slots + ms) Q (F0 m pc ls rest) q9)
    (kk : ∀ (r : Int64) (u : S) (t : State) (H1 : Heap) (locs1 : List Loc), t.heap = H1 → s.vm.Alike t.vm → post r u → B u t → H.size ≤ H1.size → (∀ q : Nat, q < H.size → ¬ A1 q → H1[q]? = H[q]?) → va_S A0 H0 H1 locs1 → W p l e R s m args below meth c H1 locs1 (cells + mc) (slots + ms) Q (F0 m (pc + 3) ls (.long r :: rest))) : W p l e R s m args below meth c H locs cells slots Q (F0 m pc ls st0) := by
  intro T hT X
  rcases hr T hT X with ⟨v, st₀, t, T', L, h0, X', hL, e1, e2, ⟨⟨r, u, hv, hp, hb⟩, hF⟩, st⟩ | ⟨q, st₀, t, T', L, E, ce, h0, X', hL, e1, e2, ⟨u, hp, hb, hF⟩, hce, hcv, hcl, st⟩
  · cases hv
    obtain ⟨k1, k2, k3⟩ := vx_keep h0 e1 hS hA hf hL hF
    obtain ⟨t2, a1, b1⟩ := kk r u t T'.heap (locs ++ L) e1.symm (by rw [← e2]; exact X'.warmed.alike) hp hb k1 k2 k3 T' rfl X'
    exact ⟨t2, st t2 a1, b1⟩
  · obtain ⟨k1, k2, k3⟩ := vx_keep h0 e1 hS hAX hf hL hF
    obtain ⟨t2, a1, b1⟩ := kx E ce q u t T'.heap (locs ++ L) e1.symm (by rw [← e2]; exact X'.warmed.alike) hp hb k1 k2 k3 (by rw [e1]; exact hce) hcv hcl T' rfl X'
    exact ⟨t2, st.trans a1, b1⟩
theorem vx_callf {S SX : Type} {post : UInt32 → S → Prop} {px : SX → Prop} {B : S → State → Prop} {BX : String → SX → State → Prop} {AX : Nat → Prop} (hr : vx_Run p l e R s m args below meth c H locs cells slots mc ms (F0 m pc ls st0) rest (va_Qf post B A1 a) (vx_X px BX AX) free) (hS : va_S A0 H0 H locs) (hA : ∀ q, q < H.size → A1 q → A0 q) (hf : ∀ q, free q → A0 q) (hAX : ∀ q, q < H.size → AX q → A0 q)
    (kx : ∀ (E : String) (ce : Cell) (q9 : Addr) (u : SX) (t : State) (H1 : Heap) (locs1 : List Loc), t.heap = H1 → s.vm.Alike t.vm → px u → BX E u t → H.size ≤ H1.size → (∀ q : Nat, q < H.size → ¬ AX q → H1[q]? = H[q]?) → va_S A0 H0 H1 locs1 → H1[q9]? = some ce → ce.vm = .none → s.vm.findClass E = some ce.cls → vx_W p l e R s m args below meth c H1 locs1 (cells + mc) (slots + ms) Q (F0 m pc ls rest) q9)
    (kk : ∀ (r : UInt32) (u : S) (t : State) (H1 : Heap) (locs1 : List Loc), t.heap = H1 → s.vm.Alike t.vm → post r u → B u t → H.size ≤ H1.size → (∀ q : Nat, q < H.size → ¬ A1 q → H1[q]? = H[q]?) → va_S A0 H0 H1 locs1 → W p l e R s m args below meth c H1 locs1 (cells + mc) (slots + ms) Q (F0 m (pc + 3) ls (.float r :: rest))) : W p l e R s m args below meth c H locs cells slots Q (F0 m pc ls st0) := by
  intro T hT X
  rcases hr T hT X with ⟨v, st₀, t, T', L, h0, X', hL, e1, e2, ⟨⟨r, u, hv, hp, hb⟩, hF⟩, st⟩ | ⟨q, st₀, t, T', L, E, ce, h0, X', hL, e1, e2, ⟨u, hp, hb, hF⟩, hce, hcv, hcl, st⟩
  · cases hv
    obtain ⟨k1, k2, k3⟩ := vx_keep h0 e1 hS hA hf hL hF
    obtain ⟨t2, a1, b1⟩ := kk r u t T'.heap (locs ++ L) e1.symm (by rw [← e2]; exact X'.warmed.alike) hp hb k1 k2 k3 T' rfl X'
    exact ⟨t2, st t2 a1, b1⟩
  · obtain ⟨k1, k2, k3⟩ := vx_keep h0 e1 hS hAX hf hL hF
    obtain ⟨t2, a1, b1⟩ := kx E ce q u t T'.heap (locs ++ L) e1.symm (by rw [← e2]; exact X'.warmed.alike) hp hb k1 k2 k3 (by rw [e1]; exact hce) hcv hcl T' rfl X'
    exact ⟨t2, st.trans a1, b1⟩
theorem vx_calld {S SX : Type} {post : UInt64 → S → Prop} {px : SX → Prop} {B : S → State → Prop} {BX : String → SX → State → Prop} {AX : Nat → Prop} (hr : vx_Run p l e R s m args below meth c H locs cells slots mc ms (F0 m pc ls st0) rest (va_Qd post B A1 a) (vx_X px BX AX) free) (hS : va_S A0 H0 H locs) (hA : ∀ q, q < H.size → A1 q → A0 q) (hf : ∀ q, free q → A0 q) (hAX : ∀ q, q < H.size → AX q → A0 q)
    (kx : ∀ (E : String) (ce : Cell) (q9 : Addr) (u : SX) (t : State) (H1 : Heap) (locs1 : List Loc), t.heap = H1 → s.vm.Alike t.vm → px u → BX E u t → H.size ≤ H1.size → (∀ q : Nat, q < H.size → ¬ AX q → H1[q]? = H[q]?) → va_S A0 H0 H1 locs1 → H1[q9]? = some ce → ce.vm = .none → s.vm.findClass E = some ce.cls → vx_W p l e R s m args below meth c H1 locs1 (cells + mc) (slots + ms) Q (F0 m pc ls rest) q9)
    (kk : ∀ (r : UInt64) (u : S) (t : State) (H1 : Heap) (locs1 : List Loc), t.heap = H1 → s.vm.Alike t.vm → post r u → B u t → H.size ≤ H1.size → (∀ q : Nat, q < H.size → ¬ A1 q → H1[q]? = H[q]?) → va_S A0 H0 H1 locs1 → W p l e R s m args below meth c H1 locs1 (cells + mc) (slots + ms) Q (F0 m (pc + 3) ls (.double r :: rest))) : W p l e R s m args below meth c H locs cells slots Q (F0 m pc ls st0) := by
  intro T hT X
  rcases hr T hT X with ⟨v, st₀, t, T', L, h0, X', hL, e1, e2, ⟨⟨r, u, hv, hp, hb⟩, hF⟩, st⟩ | ⟨q, st₀, t, T', L, E, ce, h0, X', hL, e1, e2, ⟨u, hp, hb, hF⟩, hce, hcv, hcl, st⟩
  · cases hv
    obtain ⟨k1, k2, k3⟩ := vx_keep h0 e1 hS hA hf hL hF
    obtain ⟨t2, a1, b1⟩ := kk r u t T'.heap (locs ++ L) e1.symm (by rw [← e2]; exact X'.warmed.alike) hp hb k1 k2 k3 T' rfl X'
    exact ⟨t2, st t2 a1, b1⟩
  · obtain ⟨k1, k2, k3⟩ := vx_keep h0 e1 hS hAX hf hL hF
    obtain ⟨t2, a1, b1⟩ := kx E ce q u t T'.heap (locs ++ L) e1.symm (by rw [← e2]; exact X'.warmed.alike) hp hb k1 k2 k3 (by rw [e1]; exact hce) hcv hcl T' rfl X'
    exact ⟨t2, st.trans a1, b1⟩
theorem vx_callv {S SX : Type} {post : S → Prop} {px : SX → Prop} {B : S → State → Prop} {BX : String → SX → State → Prop} {AX : Nat → Prop} (hr : vx_Run p l e R s m args below meth c H locs cells slots mc ms (F0 m pc ls st0) rest (va_Qv post B A1 a) (vx_X px BX AX) free) (hS : va_S A0 H0 H locs) (hA : ∀ q, q < H.size → A1 q → A0 q) (hf : ∀ q, free q → A0 q) (hAX : ∀ q, q < H.size → AX q → A0 q)
    (kx : ∀ (E : String) (ce : Cell) (q9 : Addr) (u : SX) (t : State) (H1 : Heap) (locs1 : List Loc), t.heap = H1 → s.vm.Alike t.vm → px u → BX E u t → H.size ≤ H1.size → (∀ q : Nat, q < H.size → ¬ AX q → H1[q]? = H[q]?) → va_S A0 H0 H1 locs1 → H1[q9]? = some ce → ce.vm = .none → s.vm.findClass E = some ce.cls → vx_W p l e R s m args below meth c H1 locs1 (cells + mc) (slots + ms) Q (F0 m pc ls rest) q9)
    (kk : ∀ (u : S) (t : State) (H1 : Heap) (locs1 : List Loc), t.heap = H1 → s.vm.Alike t.vm → post u → B u t → H.size ≤ H1.size → (∀ q : Nat, q < H.size → ¬ A1 q → H1[q]? = H[q]?) → va_S A0 H0 H1 locs1 → W p l e R s m args below meth c H1 locs1 (cells + mc) (slots + ms) Q (F0 m (pc + 3) ls (rest))) : W p l e R s m args below meth c H locs cells slots Q (F0 m pc ls st0) := by
  intro T hT X
  rcases hr T hT X with ⟨v, st₀, t, T', L, h0, X', hL, e1, e2, ⟨⟨u, hv, hp, hb⟩, hF⟩, st⟩ | ⟨q, st₀, t, T', L, E, ce, h0, X', hL, e1, e2, ⟨u, hp, hb, hF⟩, hce, hcv, hcl, st⟩
  · cases hv
    obtain ⟨k1, k2, k3⟩ := vx_keep h0 e1 hS hA hf hL hF
    obtain ⟨t2, a1, b1⟩ := kk u t T'.heap (locs ++ L) e1.symm (by rw [← e2]; exact X'.warmed.alike) hp hb k1 k2 k3 T' rfl X'
    exact ⟨t2, st t2 a1, b1⟩
  · obtain ⟨k1, k2, k3⟩ := vx_keep h0 e1 hS hAX hf hL hF
    obtain ⟨t2, a1, b1⟩ := kx E ce q u t T'.heap (locs ++ L) e1.symm (by rw [← e2]; exact X'.warmed.alike) hp hb k1 k2 k3 (by rw [e1]; exact hce) hcv hcl T' rfl X'
    exact ⟨t2, st.trans a1, b1⟩
/-- caught by the row x of this method's table; the rows ahead don't take it -/
theorem vx_catch {own name : String} {E : String} {ce : Cell} {q : Addr} (hown : s.vm.findClass own = some m.cls) (pre : List ExceptionTableEntry) (x : ExceptionTableEntry) (suf : List ExceptionTableEntry) (hsplit : c.exceptionTable.toList = pre ++ x :: suf)
    (hpass : ∀ z ∈ pre, covers z pc = false ∨ (z.catchType ≠ 0 ∧ ∃ nm : String, (Cond.classLink own z.catchType nm).before args s = true ∧ va_Nc E nm s)) (hx : covers x pc = true) (h0 : x.catchType ≠ 0)
    (hlink : (Cond.classLink own x.catchType name).before args s = true) (hcast : (Cond.castable E name).before args s = true) (hcell : H[q]? = some ce) (hv : ce.vm = .none) (hcl : s.vm.findClass E = some ce.cls)
    (kk : W p l e R s m args below meth c H locs cells slots Q (F0 m x.handlerPc ls [.ref q])) : vx_W p l e R s m args below meth c H locs cells slots Q (F0 m pc ls rest) q := by
  intro T hT X
  have hpl : e.platform.magicAccessors = ({} : Platform).magicAccessors := by rw [X.admits.platform]
  obtain ⟨c3, c4, hc3, hc4, hasg⟩ := Cond.castable_spec hcast
  cases Option.some.inj (hc3.symm.trans hcl)
  obtain ⟨c5, hc5, hcl5⟩ := Cond.classLink_spec hown hlink e.platform hpl
  cases Option.some.inj (hc4.symm.trans hc5)
  obtain ⟨vm', X', st⟩ := X.thenCaughtThrough q (g := F0 m pc ls rest) rfl (Steps.refl _) (by rw [hT]; exact hcell) (by rw [hv]; rfl) (by obtain ⟨k9, h9, -⟩ := Vm.findClass_spec hcl; exact ⟨k9, h9⟩) pre x suf hsplit
    (fun z hz => by
      rcases hpass z hz with h | ⟨hz0, nm, hl1, hn1⟩
      · exact Or.inl h
      · obtain ⟨c6, hc6, hcl6⟩ := Cond.classLink_spec hown hl1 e.platform hpl
        obtain ⟨a8, b8, h1, h2, h3⟩ := hn1
        cases Option.some.inj (h1.symm.trans hcl)
        cases Option.some.inj (h2.symm.trans hc6)
        exact Or.inr ⟨hz0, _, hcl6, h3⟩) hx (Or.inr ⟨h0, c4, hcl5, hasg⟩)
  obtain ⟨t, a1, b1⟩ := kk (T.setVm vm') hT X'
  exact ⟨t, st.trans a1, b1⟩
end Rows
section Ends
variable {p : Program} {l : Launch} {e : Env} {R : Room} {s : State} {m : MethodId} {args : Array Value} {below : List Frame} {meth : Method} {c : Code} {H : Heap} {locs : List Loc} {cells slots : Nat} {Q : State → Prop}
variable {mc ms : Nat} {free : Addr → Prop} {A0 A1 : Nat → Prop} {H0 : Heap} {a : Array Value} {ls : Array Slot} {st0 rest : List Value}
variable {Qc : Array Value → State → Outcome → State → Prop} {XC : String → State → State → Prop}
/-- what a body that may throw owes at its end -/
def vx_MQ (below : List Frame) (Qc : Array Value → State → Outcome → State → Prop) (XC : String → State → State → Prop) (a : Array Value) (s : State) (mc ms : Nat) (free : Addr → Prop) : State → Prop := fun t =>
  ∃ o, t.status = .running ∧ Ended t below o ∧ vx_Q Qc XC mc ms free a s o t
theorem vx_ret {g : JFrame} {mc ms : Nat} (k : W p l e R s m args below meth c H locs cells slots (MQ below Qc args s mc ms free) g) : W p l e R s m args below meth c H locs cells slots (vx_MQ below Qc XC args s mc ms free) g := by
  intro T hT X
  obtain ⟨t, a1, o, b1, b2, b3, b4⟩ := k T hT X
  exact ⟨t, a1, o, b1, b2, Or.inl ⟨b3, b4⟩⟩
/-- not caught here: it goes on to the caller -/
theorem vx_widen {g : JFrame} {q : Addr} {k n : Nat} (h1 : cells ≤ k) (h2 : slots ≤ n) (kk : vx_W p l e R s m args below meth c H locs k n Q g q) : vx_W p l e R s m args below meth c H locs cells slots Q g q := fun T hT X => kk T hT (stand_widen X h1 h2)
theorem vx_out {pc : Nat} {E : String} {ce : Cell} {q : Addr} {mc ms : Nat} (hout : ∀ x ∈ c.exceptionTable.toList, covers x pc = false) (hlocks : meth.locks = false) (hcell : H[q]? = some ce) (hv : ce.vm = .none) (hcl : s.vm.findClass E = some ce.cls)
    (hx : ∀ t : State, t.heap = H → s.vm.Alike t.vm → XC E s t) (hf : ∀ z ∈ locs, free z.base) (hc : cells ≤ mc) (hs : slots ≤ ms) :
    vx_W p l e R s m args below meth c H locs cells slots (vx_MQ below Qc XC args s mc ms free) (F0 m pc ls rest) q := by
  intro T hT X
  obtain ⟨st1, hrun, hend, hW, hsm⟩ := X.leaveThrown q (g := F0 m pc ls rest) rfl rfl rfl hout hlocks
  have hcell9 : (T.setFrames (.throwing q :: below)).heap[q]? = some ce := by
    show T.heap[q]? = some ce
    rw [hT]; exact hcell
  exact ⟨_, st1, .threw q, hrun, hend, Or.inr ⟨q, rfl, E, ce, locs, hx _ hT hW.alike, hcell9, hv, hcl, hW, hsm.mono hc hs, hf⟩⟩
theorem vx_frame {U : State} {k n : Nat} (h : s.sameButNew ({ U with vm := s.vm } : State) locs k n) : s.heap.size ≤ U.heap.size ∧ ∀ q : Nat, q < s.heap.size → (∀ z ∈ locs, z.base ≠ q) → U.heap[q]? = s.heap[q]? := by
  obtain ⟨-, h2, -, -, -, h6⟩ := h
  refine ⟨h2, fun q hq hz => ?_⟩
  obtain ⟨c9, e1, e2, e3, e4⟩ := h6 q _ (Array.getElem?_eq_getElem hq)
  have hs : c9.slots = (s.heap[q]).slots := Array.ext_getElem? fun i => e4 i fun hm => hz _ hm rfl
  have h9 : c9 = s.heap[q] := by
    rw [hs] at e2
    exact e2
  have e5 : U.heap[q]? = some c9 := e1
  rw [e5, h9, Array.getElem?_eq_getElem hq]
/-- the words of a throw but the four that speak of the heap -/
def vx_no (w : Cond) : Bool := decide (w ≠ .isRef (.static Bundle.tN "UNASSIGNED_STACK" Bundle.steD)) && decide (w ≠ .isRef (.static Bundle.tN "SUPPRESSED_SENTINEL" Bundle.listD)) && decide (w ≠ .laysStatic Bundle.tN "UNASSIGNED_STACK" Bundle.steD) && decide (w ≠ .laysStatic Bundle.tN "SUPPRESSED_SENTINEL" Bundle.listD)
def vx_at0 (own : String) (ic : Nat) (X : String) (names : List String) : List Cond := (Bundle.ownAtoms0 own ic X names).filter vx_no
def vx_atS (own : String) (ic : Nat) (X : String) (names : List String) : List Cond := (Bundle.ownAtoms own ic X names).filter vx_no
/-- a word that the tables alone decide, or a good one -/
def vx_ot (w : Cond) : Bool := w.onTables || goodWord w
theorem vx_ot_at {args a' : Array Value} {s U : State} {w : Cond} (hW : s.WarmedH U.vm) (hvm : s.vm = U.vm) (hg : vx_ot w = true) (h : w.before args s = true) : w.before a' U = true := by
  simp only [vx_ot, Bool.or_eq_true] at hg
  rcases hg with hg | hg
  · exact va_tabs hg hvm h
  · exact word_at hW (good_of_word hg) h
/-- a list's words: the good ones out of the method's own list, the others by premises of their own -/
theorem vx_hat {args : Array Value} {s : State} {L B : List Cond} (h1 : ∀ w ∈ L.filter goodWord, w.before args s = true) (h2 : ∀ w ∈ L.filter (fun w => !goodWord w), w ∈ B) (h3 : ∀ w ∈ B, w.before args s = true) : ∀ w ∈ L, w.before args s = true := by
  intro w hw
  by_cases g : goodWord w = true
  · exact h1 w (List.mem_filter.mpr ⟨hw, g⟩)
  · refine h3 w (h2 w (List.mem_filter.mpr ⟨hw, ?_⟩))
    show (!goodWord w) = true
    cases hgw : goodWord w
    · rfl
    · exact absurd hgw g
theorem vx_c {args : Array Value} {s : State} {w : Cond} {B : List Cond} (h : w.before args s = true) (t : ∀ w ∈ B, w.before args s = true) : ∀ w' ∈ w :: B, w'.before args s = true := fun w' h' => (List.mem_cons.mp h').elim (fun e => by rw [e]; exact h) (t w')
theorem vx_n {args : Array Value} {s : State} : ∀ w ∈ ([] : List Cond), w.before args s = true := fun _ h => nomatch h
theorem vx_own {args : Array Value} {s : State} {L : List Cond} (h1 : ∀ w ∈ L.filter vx_no, w.before args s = true)
    (hU : (Cond.isRef (.static Bundle.tN "UNASSIGNED_STACK" Bundle.steD)).before args s = true) (hN : (Cond.isRef (.static Bundle.tN "SUPPRESSED_SENTINEL" Bundle.listD)).before args s = true)
    (lU : (Cond.laysStatic Bundle.tN "UNASSIGNED_STACK" Bundle.steD).before args s = true) (lN : (Cond.laysStatic Bundle.tN "SUPPRESSED_SENTINEL" Bundle.listD).before args s = true) : ∀ w ∈ L, w.before args s = true := by
  intro w hw
  by_cases e1 : w = .isRef (.static Bundle.tN "UNASSIGNED_STACK" Bundle.steD)
  · rw [e1]; exact hU
  · by_cases e2 : w = .isRef (.static Bundle.tN "SUPPRESSED_SENTINEL" Bundle.listD)
    · rw [e2]; exact hN
    · by_cases e3 : w = .laysStatic Bundle.tN "UNASSIGNED_STACK" Bundle.steD
      · rw [e3]; exact lU
      · by_cases e4 : w = .laysStatic Bundle.tN "SUPPRESSED_SENTINEL" Bundle.listD
        · rw [e4]; exact lN
        · exact h1 w (List.mem_filter.mpr ⟨hw, by unfold vx_no; rw [decide_eq_true e1, decide_eq_true e2, decide_eq_true e3, decide_eq_true e4]; rfl⟩)
/-- where a static field lies, its class's statics cell in H -/
def vx_L (C n d : String) (A : Nat → Prop) (U : State) (H : Heap) : Prop := ∃ (c : ClassId) (k : Class) (i : Nat) (f : Field) (a : Nat) (cell : Cell), U.vm.findClass C = some c ∧ U.fieldFound? C n d = some (c, k, i, f) ∧ f.isStatic = true ∧ k.statics = some a ∧ H[a]? = some cell ∧ cell.vm.isStatics = true ∧ cell.cls = c ∧ f.slot < cell.slots.size ∧ k.staticTypes[f.slot]? = some f.type ∧ ¬ A a
theorem vx_L.moved {C n d : String} {A : Nat → Prop} {u U : State} {H : Heap} (hvm : u.vm.Alike U.vm) (h : vx_L C n d A u H) : vx_L C n d A U H := by
  obtain ⟨c, k, i, f, a, cell, h1, h2, h3, h4, h5, h6, h7, h8, h9, h10⟩ := h
  obtain ⟨k', hi', he⟩ := State.fieldFound?_setVm hvm h2
  exact ⟨c, k', i, f, a, cell, by rw [hvm.findClass]; exact h1, hi', h3, by rw [he]; exact h4, h5, h6, h7, h8, by rw [he]; exact h9, h10⟩
theorem vx_L.kept {C n d : String} {A : Nat → Prop} {U : State} {H H1 : Heap} (h : vx_L C n d A U H) (hq : ∀ a : Nat, a < H.size → ¬ A a → H1[a]? = H[a]?) : vx_L C n d A U H1 := by
  obtain ⟨c, k, i, f, a, cell, h1, h2, h3, h4, h5, h6, h7, h8, h9, h10⟩ := h
  exact ⟨c, k, i, f, a, cell, h1, h2, h3, h4, by rw [hq a (Array.getElem?_eq_some_iff.mp h5).1 h10]; exact h5, h6, h7, h8, h9, h10⟩
theorem vx_L.narrow {C n d : String} {A B : Nat → Prop} {U : State} {H : Heap} (h : vx_L C n d A U H) (hAB : ∀ q, B q → A q) : vx_L C n d B U H := by
  obtain ⟨c, k, i, f, a, cell, h1, h2, h3, h4, h5, h6, h7, h8, h9, h10⟩ := h
  exact ⟨c, k, i, f, a, cell, h1, h2, h3, h4, h5, h6, h7, h8, h9, fun z => h10 (hAB _ z)⟩
theorem vx_L.word {C n d : String} {A : Nat → Prop} {s : State} {args : Array Value} (h : vx_L C n d A s s.heap) : (Cond.laysStatic C n d).before args s = true := by
  obtain ⟨c, k, i, f, a, cell, h1, h2, h3, h4, h5, h6, h7, h8, h9, -⟩ := h
  show (Cond.laysStatic C n d).holds args s none s [] = true
  exact Cond.laysStatic_of h1 h2 h3 h4 h5 h6 h7 h8 h9
/-- .. and what it holds: null or some reference -/
def vx_Zq (C n d : String) (A : Nat → Prop) (U : State) (H : Heap) : Prop := va_Zq C n d A U H ∧ vx_L C n d A U H
theorem vx_Zq.moved {C n d : String} {A : Nat → Prop} {u U : State} {H : Heap} (hvm : u.vm.Alike U.vm) (h : vx_Zq C n d A u H) : vx_Zq C n d A U H := ⟨va_Zq.moved hvm h.1, vx_L.moved hvm h.2⟩
theorem vx_Zq.kept {C n d : String} {A : Nat → Prop} {U : State} {H H1 : Heap} (h : vx_Zq C n d A U H) (hq : ∀ a : Nat, a < H.size → ¬ A a → H1[a]? = H[a]?) : vx_Zq C n d A U H1 := ⟨va_Zq.kept h.1 hq, vx_L.kept h.2 hq⟩
theorem vx_Zq.narrow {C n d : String} {A B : Nat → Prop} {U : State} {H : Heap} (h : vx_Zq C n d A U H) (hAB : ∀ q, B q → A q) : vx_Zq C n d B U H := ⟨va_Zq.narrow h.1 hAB, vx_L.narrow h.2 hAB⟩
theorem vx_Zqof {args : Array Value} {s : State} {C n d : String} {A : Nat → Prop} (hl : (Cond.laysStatic C n d).before args s = true) (hini : (Cond.initialized C).before args s = true) (h : (Cond.isRef (.static C n d)).before args s = true) (hA : ∀ a : Nat, a < s.heap.size → ¬ A a) : vx_Zq C n d A s s.heap := by
  refine ⟨va_Zqof hl hini h hA, ?_⟩
  obtain ⟨c, k, i, f, a, cell, h1, h2, h3, h4, h5, h6, h7, h8, h9⟩ := Cond.laysStatic_spec hl
  exact ⟨c, k, i, f, a, cell, h1, h2, h3, h4, h5, h6, h7, h8, h9, hA a (Array.getElem?_eq_some_iff.mp h5).1⟩
theorem vx_isRef {C n d : String} {v : Value} {A : Nat → Prop} {s : State} {args : Array Value} (h : va_Z C n d v A s s.heap) (hv : v.isRef = true) : (Cond.isRef (.static C n d)).before args s = true := by
  obtain ⟨cf, kf, fi, f, a, cell, h1, h2, h3, h4, h5, h6, h7, -⟩ := h
  have he : (Term.static C n d).eval args s none [] s = some v := by
    simp [Term.eval, State.fieldNamed?, h1, h2, h4, h5, h6, h7]
  simp only [Cond.before, Cond.holds, Cond.value, he]
  cases v <;> simp_all [Value.isRef]
theorem vx_isRefq {C n d : String} {A : Nat → Prop} {s : State} {args : Array Value} (h : va_Zq C n d A s s.heap) : (Cond.isRef (.static C n d)).before args s = true := by
  rcases h with h | ⟨t, h⟩
  · exact vx_isRef h rfl
  · exact vx_isRef h rfl
/-- the same frame, seen from here: as if the method were called anew in this heap -/
theorem vx_rebase {T : State} (X : Stand p l e R s m args below meth c T locs cells slots) {R' : Room} (hf : R'.frames ≤ R.frames) (hl : R'.locals ≤ R.locals) (hc : cells + R'.cells ≤ R.cells) (hs : slots + R'.slots ≤ R.slots) :
    Stand p l e R' ((T.setVm s.vm).setFrames (.invoking m args :: below)) m args below meth c T [] 0 0 := by
  have htop : (T.setVm s.vm).topJava?.isSome := X.here.top
  have hF : ((T.setVm s.vm).setFrames (.invoking m args :: below)).frames = .invoking m args :: below := State.frames_setFrames _ (State.cur_lt_of_top htop)
  obtain ⟨g₀, hg0⟩ := Option.isSome_iff_exists.mp htop
  obtain ⟨r, hr⟩ := State.topJava?_eq_some.mp hg0
  have hl9 : e.platform.stackLimits (T.setVm s.vm).me = e.platform.stackLimits s.me := X.limits
  have hb9 : (T.setVm s.vm).me.stackBytes = s.me.stackBytes := X.bytes
  refine ⟨X.admits, X.cas, X.clock, hF, ?_, X.hears, X.method, X.code, X.here, X.tail, X.warmed, ?_, ?_, ?_⟩
  · have h := X.room
    have hU : ((T.setVm s.vm).setFrames (.invoking m args :: below)).localsInUse = s.localsInUse := by
      rw [State.localsInUse_invoking hF (meth := meth) (c := c) X.method X.code, State.localsInUse_invoking X.frames X.method X.code]
    simp only [State.hasRoom, Bool.and_eq_true, decide_eq_true_eq] at h ⊢
    obtain ⟨⟨⟨⟨h1, h2, h3, h4, h5, h6⟩, h7⟩, h8⟩, h9⟩ := h
    rw [X.frames, List.length_cons] at h2 h3
    have q1 := X.heapSize
    have q2 := X.used
    simp only [hF, hU, List.length_cons, State.stackLimits_setFrames, State.stackBytes_setFrames, hl9, hb9]
    refine ⟨⟨⟨⟨by omega, by omega, by omega, by omega, by omega, h6⟩, ?_⟩, ?_⟩, X.book⟩
    · show T.heap.size + R'.cells ≤ e.platform.maxCells
      omega
    · show T.slotsUsed + R'.slots ≤ e.platform.maxSlots
      omega
  · rw [State.stackLimits_setFrames]; rfl
  · rw [State.stackBytes_setFrames]; rfl
  · refine ⟨?_, Nat.le_refl _, Nat.le_refl _, ?_, ?_, fun a c9 h9 => ⟨c9, h9, rfl, rfl, fun _ _ => rfl⟩⟩
    · obtain ⟨t, ht, -⟩ := State.frames_cons hr
      show T.setVm s.vm = { ((T.setVm s.vm).setFrames (.invoking m args :: below)).setFrames (T.setVm s.vm).frames with heap := T.heap, slotsUsed := T.slotsUsed }
      rw [State.setFrames_setFrames, State.setFrames_self ht]
      rfl
    · show T.slotsUsed = T.slotsUsed + ((T.heap.toList.drop T.heap.size).map (·.slots.size)).sum
      rw [List.drop_eq_nil_of_le (Nat.le_of_eq Array.length_toList)]
      rfl
    · show ((T.heap.toList.drop T.heap.size).map (·.slots.size)).sum ≤ 0
      rw [List.drop_eq_nil_of_le (Nat.le_of_eq Array.length_toList)]
      exact Nat.le_refl _
/-- 'throw new E()': new; dup; invokespecial; athrow -/
theorem vx_throw0 {cc : ByteArray} {pc : Nat} (hexec : p.tables.exec = Jvm.exec) (hb : c.code = cc) (hl : l.stackTraces = false) {own cls : String} {names : List String} {ik ic mc ms : Nat} {A : Nat → Prop}
    (hown : s.vm.findClass own = some m.cls) (hcls : Bundle.fit cls = true) (hnames : ∀ n ∈ names, Bundle.fit n = true)
    (hk : (Cond.classLink own ik cls).before args s = true) (hini : (Cond.initialized cls).before args s = true) (hat : ∀ w ∈ vx_at0 own ic cls names, w.before args s = true)
    (hgood : ∀ w ∈ Cond.classLink own ik cls :: Cond.initialized cls :: vx_at0 own ic cls names, vx_ot w = true)
    (hU : vx_Zq Bundle.tN "UNASSIGNED_STACK" Bundle.steD A s s.heap) (hN : vx_Zq Bundle.tN "SUPPRESSED_SENTINEL" Bundle.listD A s s.heap) (hS : va_S A s.heap H locs) (hsize : ls.size = c.maxLocals)
    (d0 : decode cc pc = .ok (.new ik, 3)) (d3 : decode cc (pc + 3) = .ok (.dup, 1)) (d4 : decode cc (pc + 4) = .ok (.invokespecial ic, 3)) (d7 : decode cc (pc + 7) = .ok (.athrow, 1))
    (hout : ∀ x ∈ c.exceptionTable.toList, covers x (pc + 7) = false)
    (hRframes : names.length + 3 < R.frames) (hRlocals : (rest.map fun v => v.category).sum + (13 * (names.length + 1) + 42) ≤ R.locals) (hRcells : cells + 1 ≤ R.cells) (hRslots : slots + 6 ≤ R.slots) (hlocks : meth.locks = false)
    (hx : ∀ t : State, s.vm.Alike t.vm → H.size ≤ t.heap.size → (∀ q : Nat, q < H.size → t.heap[q]? = H[q]?) → XC cls s t)
    (hf : ∀ z ∈ locs, free z.base) (hc : cells + 1 ≤ mc) (hs : slots + 6 ≤ ms) :
    W p l e R s m args below meth c H locs cells slots (vx_MQ below Qc XC args s mc ms free) (F0 m pc ls rest) := by
  intro T hT X
  have htr : e.platform.stackTraces = false := (show e.platform.stackTraces = l.stackTraces by rw [X.admits.platform]).trans hl
  have Y := vx_rebase X (R' := { frames := R.frames, locals := R.locals, cells := 1, slots := 6 }) (Nat.le_refl _) (Nat.le_refl _) hRcells hRslots
  obtain ⟨s', hA⟩ : ∃ z, z = (T.setVm s.vm).setFrames (.invoking m args :: below) := ⟨_, rfl⟩
  rw [← hA] at Y
  have hvm : s'.vm = s.vm := by rw [hA]; rfl
  have hhp : s'.heap = H := by rw [hA]; exact hT
  have hW0 : s.WarmedH s'.vm := by rw [hvm]; exact State.WarmedH.refl s
  have hat' : ∀ w ∈ vx_at0 own ic cls names, w.before args s' = true := fun w hw => vx_ot_at hW0 hvm.symm (hgood w (List.mem_cons_of_mem _ (List.mem_cons_of_mem _ hw))) (hat w hw)
  have hk' : (Cond.classLink own ik cls).before args s' = true := vx_ot_at hW0 hvm.symm (hgood _ List.mem_cons_self) hk
  have hini' : (Cond.initialized cls).before args s' = true := vx_ot_at hW0 hvm.symm (hgood _ (List.mem_cons_of_mem _ List.mem_cons_self)) hini
  have hU' : vx_Zq Bundle.tN "UNASSIGNED_STACK" Bundle.steD A s' s'.heap := by rw [hhp]; exact vx_Zq.moved hW0.alike (hU.kept hS.2.1)
  have hN' : vx_Zq Bundle.tN "SUPPRESSED_SENTINEL" Bundle.listD A s' s'.heap := by rw [hhp]; exact vx_Zq.moved hW0.alike (hN.kept hS.2.1)
  have h : ∀ w ∈ Bundle.ownAtoms0 own ic cls names, w.before args s' = true := vx_own hat' (vx_isRefq hU'.1) (vx_isRefq hN'.1) hU'.2.word hN'.2.word
  have hown' : s'.vm.findClass own = some m.cls := by rw [hvm]; exact hown
  have hins : (Cond.instantiable cls 6).before args s' = true := h _ (by simp [Bundle.ownAtoms0])
  obtain ⟨vm₁, cX, kX, hfX, hkX, -, -, X₁, st1⟩ := Y.newCold hexec (own := own) (C := cls) (index := ik) (n := 6) hown' hk' hins hini'
    (g := F0 m pc ls rest) rfl (by rw [hb]; exact d0) (Nat.le_refl _) (Nat.le_refl _)
  generalize hT1 : (T.setVm vm₁).pushCell { cls := cX, slots := kX.instanceTypes.map defaultValue, vm := .none } = T1 at X₁ st1
  have hcat : (Value.ref T.heap.size).category = 1 := rfl
  have hcellA : T1.heap[T.heap.size]? = some (freshCell cX kX) := by rw [← hT1]; exact State.heap_pushCell_size _ _
  have d3' : decode c.code (pc + 3) = .ok (.dup, 1) := by rw [hb]; exact d3
  obtain ⟨U, hsteps, hrun, hend, hW, hsame, ce, hce, hO⟩ := X₁.ctorThrow0 hexec htr (own := own) (cls := cls) (names := names) (ic := ic) hown' hcls hnames h (fun x hx => nomatch hx) hfX hkX hcellA (by rw [hhp, hT]; exact Nat.le_refl _)
    (g := { method := m, pc := pc + 4, locals := ls, stack := .ref T.heap.size :: .ref T.heap.size :: rest, locked := none }) rfl hsize rfl rfl (rest := rest) rfl
    (by rw [hb]; exact d4) (by rw [hb]; exact d7) hout hRframes (by simp only [List.map_cons, List.sum_cons, hcat]; omega) hlocks
  obtain ⟨f1, f2⟩ := vx_frame hsame
  rw [hhp] at f1 f2
  have hWs : s.WarmedH U.vm := State.WarmedH.trans hW0 hW
  have hcl : s.vm.findClass cls = some ce.cls := by
    have h9 := hO.cls
    rw [hvm] at h9
    exact h9
  have hall : s.sameButNew ({ U with vm := s.vm } : State) locs mc ms := by
    subst hA
    obtain ⟨e1, e2⟩ := hsame
    rw [State.setFrames_setFrames] at e1
    have h2 : (T.setVm s.vm).sameButNew ({ U with vm := s.vm } : State) [] (0 + 1) (0 + 6) := ⟨e1, e2⟩
    have h3 := X.same.trans h2
    rw [List.append_nil] at h3
    exact h3.mono hc hs
  refine ⟨U, ?_, .threw T.heap.size, hrun, hend, Or.inr ⟨T.heap.size, rfl, cls, ce, locs, hx U hWs.alike f1 (fun q hq => f2 q hq (fun z hz => nomatch hz)), hce, hO.vm, hcl, hWs, hall, hf⟩⟩
  refine st1 _ ?_
  show Steps p.tables e below (T1.setTop { method := m, pc := pc + 3, locals := ls, stack := .ref T.heap.size :: rest, locked := none }) _
  jvm_step X₁.here [X₁.here.top, hexec, d3', Value.category]
  exact hsteps
/-- 'throw new E("text")': new; dup; ldc; invokespecial; athrow -/
theorem vx_throwS {cc : ByteArray} {pc : Nat} (hexec : p.tables.exec = Jvm.exec) (hb : c.code = cc) (hl : l.stackTraces = false) {own cls text : String} {names : List String} {ik is ic mc ms sa : Nat} {A : Nat → Prop}
    (hown : s.vm.findClass own = some m.cls) (hcls : Bundle.fit cls = true) (hnames : ∀ n ∈ names, Bundle.fit n = true)
    (hk : (Cond.classLink own ik cls).before args s = true) (hini : (Cond.initialized cls).before args s = true) (hstr : vk_R own is text sa s) (hat : ∀ w ∈ vx_atS own ic cls names, w.before args s = true)
    (hgood : ∀ w ∈ Cond.classLink own ik cls :: Cond.initialized cls :: vx_atS own ic cls names, vx_ot w = true)
    (hU : vx_Zq Bundle.tN "UNASSIGNED_STACK" Bundle.steD A s s.heap) (hN : vx_Zq Bundle.tN "SUPPRESSED_SENTINEL" Bundle.listD A s s.heap) (hS : va_S A s.heap H locs) (hsize : ls.size = c.maxLocals)
    (d0 : decode cc pc = .ok (.new ik, 3)) (d3 : decode cc (pc + 3) = .ok (.dup, 1)) (d4 : decode cc (pc + 4) = .ok (.ldc is, 2)) (d6 : decode cc (pc + 6) = .ok (.invokespecial ic, 3)) (d9 : decode cc (pc + 9) = .ok (.athrow, 1))
    (hout : ∀ x ∈ c.exceptionTable.toList, covers x (pc + 9) = false)
    (hRframes : names.length + 3 < R.frames) (hRlocals : (rest.map fun v => v.category).sum + (13 * (names.length + 1) + 43) ≤ R.locals) (hRcells : cells + 1 ≤ R.cells) (hRslots : slots + 6 ≤ R.slots) (hlocks : meth.locks = false)
    (hx : ∀ t : State, s.vm.Alike t.vm → H.size ≤ t.heap.size → (∀ q : Nat, q < H.size → t.heap[q]? = H[q]?) → XC cls s t)
    (hf : ∀ z ∈ locs, free z.base) (hc : cells + 1 ≤ mc) (hs : slots + 6 ≤ ms) :
    W p l e R s m args below meth c H locs cells slots (vx_MQ below Qc XC args s mc ms free) (F0 m pc ls rest) := by
  intro T hT X
  have htr : e.platform.stackTraces = false := (show e.platform.stackTraces = l.stackTraces by rw [X.admits.platform]).trans hl
  have Y := vx_rebase X (R' := { frames := R.frames, locals := R.locals, cells := 1, slots := 6 }) (Nat.le_refl _) (Nat.le_refl _) hRcells hRslots
  obtain ⟨s', hA⟩ : ∃ z, z = (T.setVm s.vm).setFrames (.invoking m args :: below) := ⟨_, rfl⟩
  rw [← hA] at Y
  have hvm : s'.vm = s.vm := by rw [hA]; rfl
  have hhp : s'.heap = H := by rw [hA]; exact hT
  have hW0 : s.WarmedH s'.vm := by rw [hvm]; exact State.WarmedH.refl s
  have hat' : ∀ w ∈ vx_atS own ic cls names, w.before args s' = true := fun w hw => vx_ot_at hW0 hvm.symm (hgood w (List.mem_cons_of_mem _ (List.mem_cons_of_mem _ hw))) (hat w hw)
  have hk' : (Cond.classLink own ik cls).before args s' = true := vx_ot_at hW0 hvm.symm (hgood _ List.mem_cons_self) hk
  have hini' : (Cond.initialized cls).before args s' = true := vx_ot_at hW0 hvm.symm (hgood _ (List.mem_cons_of_mem _ List.mem_cons_self)) hini
  have hU' : vx_Zq Bundle.tN "UNASSIGNED_STACK" Bundle.steD A s' s'.heap := by rw [hhp]; exact vx_Zq.moved hW0.alike (hU.kept hS.2.1)
  have hN' : vx_Zq Bundle.tN "SUPPRESSED_SENTINEL" Bundle.listD A s' s'.heap := by rw [hhp]; exact vx_Zq.moved hW0.alike (hN.kept hS.2.1)
  have h : ∀ w ∈ Bundle.ownAtoms own ic cls names, w.before args s' = true := vx_own hat' (vx_isRefq hU'.1) (vx_isRefq hN'.1) hU'.2.word hN'.2.word
  have hown' : s'.vm.findClass own = some m.cls := by rw [hvm]; exact hown
  have hins : (Cond.instantiable cls 6).before args s' = true := h _ (by simp [Bundle.ownAtoms])
  obtain ⟨vm₁, cX, kX, hfX, hkX, -, -, X₁, st1⟩ := Y.newCold hexec (own := own) (C := cls) (index := ik) (n := 6) hown' hk' hins hini'
    (g := F0 m pc ls rest) rfl (by rw [hb]; exact d0) (Nat.le_refl _) (Nat.le_refl _)
  generalize hT1 : (T.setVm vm₁).pushCell { cls := cX, slots := kX.instanceTypes.map defaultValue, vm := .none } = T1 at X₁ st1
  have hcat : (Value.ref T.heap.size).category = 1 := rfl
  have hcellA : T1.heap[T.heap.size]? = some (freshCell cX kX) := by rw [← hT1]; exact State.heap_pushCell_size _ _
  have d3' : decode c.code (pc + 3) = .ok (.dup, 1) := by rw [hb]; exact d3
  have d4' : decode c.code (pc + 4) = .ok (.ldc is, 2) := by rw [hb]; exact d4
  have hstr' : vk_R own is text sa s' := vk_R.warm hW0 hstr
  obtain ⟨U, hsteps, hrun, hend, hW, hsame, ce, hce, hO⟩ := X₁.ctorThrowS hexec htr (own := own) (cls := cls) (names := names) (ic := ic) hown' hcls hnames h (fun x hx => nomatch hx) hfX hkX hcellA (by rw [hhp, hT]; exact Nat.le_refl _) (msg := .ref sa) rfl
    (g := { method := m, pc := pc + 6, locals := ls, stack := .ref sa :: .ref T.heap.size :: .ref T.heap.size :: rest, locked := none }) rfl hsize rfl rfl (rest := rest) rfl
    (by rw [hb]; exact d6) (by rw [hb]; exact d9) hout hRframes (by simp only [List.map_cons, List.sum_cons, hcat]; omega) hlocks
  obtain ⟨f1, f2⟩ := vx_frame hsame
  rw [hhp] at f1 f2
  have hWs : s.WarmedH U.vm := State.WarmedH.trans hW0 hW
  have hcl : s.vm.findClass cls = some ce.cls := by
    have h9 := hO.cls
    rw [hvm] at h9
    exact h9
  have hall : s.sameButNew ({ U with vm := s.vm } : State) locs mc ms := by
    subst hA
    obtain ⟨e1, e2⟩ := hsame
    rw [State.setFrames_setFrames] at e1
    have h2 : (T.setVm s.vm).sameButNew ({ U with vm := s.vm } : State) [] (0 + 1) (0 + 6) := ⟨e1, e2⟩
    have h3 := X.same.trans h2
    rw [List.append_nil] at h3
    exact h3.mono hc hs
  refine ⟨U, ?_, .threw T.heap.size, hrun, hend, Or.inr ⟨T.heap.size, rfl, cls, ce, locs, hx U hWs.alike f1 (fun q hq => f2 q hq (fun z hz => nomatch hz)), hce, hO.vm, hcl, hWs, hall, hf⟩⟩
  refine st1 _ ?_
  show Steps p.tables e below (T1.setTop { method := m, pc := pc + 3, locals := ls, stack := .ref T.heap.size :: rest, locked := none }) _
  jvm_step X₁.here [X₁.here.top, hexec, d3', Value.category]
  exact X₁.ldcString hexec (own := own) (text := text) (index := is) (a := sa) hown' hstr'.1 hstr'.2
    (g := { method := m, pc := pc + 4, locals := ls, stack := .ref T.heap.size :: .ref T.heap.size :: rest, locked := none }) rfl d4' _ hsteps
/-- 'throw new E("text")', the text by a wide index -/
theorem vx_throwSW {cc : ByteArray} {pc : Nat} (hexec : p.tables.exec = Jvm.exec) (hb : c.code = cc) (hl : l.stackTraces = false) {own cls text : String} {names : List String} {ik is ic mc ms sa : Nat} {A : Nat → Prop}
    (hown : s.vm.findClass own = some m.cls) (hcls : Bundle.fit cls = true) (hnames : ∀ n ∈ names, Bundle.fit n = true)
    (hk : (Cond.classLink own ik cls).before args s = true) (hini : (Cond.initialized cls).before args s = true) (hstr : vk_R own is text sa s) (hat : ∀ w ∈ vx_atS own ic cls names, w.before args s = true)
    (hgood : ∀ w ∈ Cond.classLink own ik cls :: Cond.initialized cls :: vx_atS own ic cls names, vx_ot w = true)
    (hU : vx_Zq Bundle.tN "UNASSIGNED_STACK" Bundle.steD A s s.heap) (hN : vx_Zq Bundle.tN "SUPPRESSED_SENTINEL" Bundle.listD A s s.heap) (hS : va_S A s.heap H locs) (hsize : ls.size = c.maxLocals)
    (d0 : decode cc pc = .ok (.new ik, 3)) (d3 : decode cc (pc + 3) = .ok (.dup, 1)) (d4 : decode cc (pc + 4) = .ok (.ldc_w is, 3)) (d7 : decode cc (pc + 7) = .ok (.invokespecial ic, 3)) (d10 : decode cc (pc + 10) = .ok (.athrow, 1))
    (hout : ∀ x ∈ c.exceptionTable.toList, covers x (pc + 10) = false)
    (hRframes : names.length + 3 < R.frames) (hRlocals : (rest.map fun v => v.category).sum + (13 * (names.length + 1) + 43) ≤ R.locals) (hRcells : cells + 1 ≤ R.cells) (hRslots : slots + 6 ≤ R.slots) (hlocks : meth.locks = false)
    (hx : ∀ t : State, s.vm.Alike t.vm → H.size ≤ t.heap.size → (∀ q : Nat, q < H.size → t.heap[q]? = H[q]?) → XC cls s t)
    (hf : ∀ z ∈ locs, free z.base) (hc : cells + 1 ≤ mc) (hs : slots + 6 ≤ ms) :
    W p l e R s m args below meth c H locs cells slots (vx_MQ below Qc XC args s mc ms free) (F0 m pc ls rest) := by
  intro T hT X
  have htr : e.platform.stackTraces = false := (show e.platform.stackTraces = l.stackTraces by rw [X.admits.platform]).trans hl
  have Y := vx_rebase X (R' := { frames := R.frames, locals := R.locals, cells := 1, slots := 6 }) (Nat.le_refl _) (Nat.le_refl _) hRcells hRslots
  obtain ⟨s', hA⟩ : ∃ z, z = (T.setVm s.vm).setFrames (.invoking m args :: below) := ⟨_, rfl⟩
  rw [← hA] at Y
  have hvm : s'.vm = s.vm := by rw [hA]; rfl
  have hhp : s'.heap = H := by rw [hA]; exact hT
  have hW0 : s.WarmedH s'.vm := by rw [hvm]; exact State.WarmedH.refl s
  have hat' : ∀ w ∈ vx_atS own ic cls names, w.before args s' = true := fun w hw => vx_ot_at hW0 hvm.symm (hgood w (List.mem_cons_of_mem _ (List.mem_cons_of_mem _ hw))) (hat w hw)
  have hk' : (Cond.classLink own ik cls).before args s' = true := vx_ot_at hW0 hvm.symm (hgood _ List.mem_cons_self) hk
  have hini' : (Cond.initialized cls).before args s' = true := vx_ot_at hW0 hvm.symm (hgood _ (List.mem_cons_of_mem _ List.mem_cons_self)) hini
  have hU' : vx_Zq Bundle.tN "UNASSIGNED_STACK" Bundle.steD A s' s'.heap := by rw [hhp]; exact vx_Zq.moved hW0.alike (hU.kept hS.2.1)
  have hN' : vx_Zq Bundle.tN "SUPPRESSED_SENTINEL" Bundle.listD A s' s'.heap := by rw [hhp]; exact vx_Zq.moved hW0.alike (hN.kept hS.2.1)
  have h : ∀ w ∈ Bundle.ownAtoms own ic cls names, w.before args s' = true := vx_own hat' (vx_isRefq hU'.1) (vx_isRefq hN'.1) hU'.2.word hN'.2.word
  have hown' : s'.vm.findClass own = some m.cls := by rw [hvm]; exact hown
  have hins : (Cond.instantiable cls 6).before args s' = true := h _ (by simp [Bundle.ownAtoms])
  obtain ⟨vm₁, cX, kX, hfX, hkX, -, -, X₁, st1⟩ := Y.newCold hexec (own := own) (C := cls) (index := ik) (n := 6) hown' hk' hins hini'
    (g := F0 m pc ls rest) rfl (by rw [hb]; exact d0) (Nat.le_refl _) (Nat.le_refl _)
  generalize hT1 : (T.setVm vm₁).pushCell { cls := cX, slots := kX.instanceTypes.map defaultValue, vm := .none } = T1 at X₁ st1
  have hcat : (Value.ref T.heap.size).category = 1 := rfl
  have hcellA : T1.heap[T.heap.size]? = some (freshCell cX kX) := by rw [← hT1]; exact State.heap_pushCell_size _ _
  have d3' : decode c.code (pc + 3) = .ok (.dup, 1) := by rw [hb]; exact d3
  have d4' : decode c.code (pc + 4) = .ok (.ldc_w is, 3) := by rw [hb]; exact d4
  have hstr' : vk_R own is text sa s' := vk_R.warm hW0 hstr
  obtain ⟨U, hsteps, hrun, hend, hW, hsame, ce, hce, hO⟩ := X₁.ctorThrowS hexec htr (own := own) (cls := cls) (names := names) (ic := ic) hown' hcls hnames h (fun x hx => nomatch hx) hfX hkX hcellA (by rw [hhp, hT]; exact Nat.le_refl _) (msg := .ref sa) rfl
    (g := { method := m, pc := pc + 7, locals := ls, stack := .ref sa :: .ref T.heap.size :: .ref T.heap.size :: rest, locked := none }) rfl hsize rfl rfl (rest := rest) rfl
    (by rw [hb]; exact d7) (by rw [hb]; exact d10) hout hRframes (by simp only [List.map_cons, List.sum_cons, hcat]; omega) hlocks
  obtain ⟨f1, f2⟩ := vx_frame hsame
  rw [hhp] at f1 f2
  have hWs : s.WarmedH U.vm := State.WarmedH.trans hW0 hW
  have hcl : s.vm.findClass cls = some ce.cls := by
    have h9 := hO.cls
    rw [hvm] at h9
    exact h9
  have hall : s.sameButNew ({ U with vm := s.vm } : State) locs mc ms := by
    subst hA
    obtain ⟨e1, e2⟩ := hsame
    rw [State.setFrames_setFrames] at e1
    have h2 : (T.setVm s.vm).sameButNew ({ U with vm := s.vm } : State) [] (0 + 1) (0 + 6) := ⟨e1, e2⟩
    have h3 := X.same.trans h2
    rw [List.append_nil] at h3
    exact h3.mono hc hs
  refine ⟨U, ?_, .threw T.heap.size, hrun, hend, Or.inr ⟨T.heap.size, rfl, cls, ce, locs, hx U hWs.alike f1 (fun q hq => f2 q hq (fun z hz => nomatch hz)), hce, hO.vm, hcl, hWs, hall, hf⟩⟩
  refine st1 _ ?_
  show Steps p.tables e below (T1.setTop { method := m, pc := pc + 3, locals := ls, stack := .ref T.heap.size :: rest, locked := none }) _
  jvm_step X₁.here [X₁.here.top, hexec, d3', Value.category]
  exact X₁.ldcStringW hexec (own := own) (text := text) (index := is) (a := sa) hown' hstr'.1 hstr'.2
    (g := { method := m, pc := pc + 4, locals := ls, stack := .ref T.heap.size :: .ref T.heap.size :: rest, locked := none }) rfl d4' _ hsteps
end Ends
section Bodies
variable {l : Launch}
theorem vx_ofW {y : MethodName} {ws ws' : List Cond} {rm : Room} {Pc : Array Value → State → Prop} {Qc : Array Value → State → Outcome → State → Prop} {XC : String → State → State → Prop} {mc ms : Nat} {free : Addr → Prop} {cc : ByteArray} {maxL : Nat} {ret : Option FieldType}
    (hy : plainName y.cls = true) (hw : ws = Cond.code y cc maxL ret :: ws')
    (body : ∀ p e s m args below meth c s₁, BodyLoose p l y (headSpec ws rm) cc maxL ret e s m args below meth c s₁ → c.maxLocals = maxL → (∀ x ∈ c.exceptionTable.toList, False) → Pc args s →
      W p l e (headSpec ws rm).room s m args below meth c s.heap [] 0 0 (vx_MQ below Qc XC args s mc ms free) (entryFrame m args maxL)) : vx_Met l y ws rm Pc Qc XC mc ms free := by
  refine MetFree.of_bodyS (code := cc) (maxLocals := maxL) (ret := ret) hy ?_ ?_
  · intro args s m h hn
    obtain ⟨meth, c, h1, h2, h3, h4, h5, h6, -, -⟩ := Cond.code_spec hn (atoms_spec (ws := ws) h _ (by rw [hw]; exact List.mem_cons_self))
    exact ⟨meth, c, h1, h2, h3, h4, h5, h6⟩
  · intro p e s m args below meth c s₁ B hml hP _
    have hh0 : s₁.heap = s.heap := by rw [B.state]; rfl
    have ht : ∀ x ∈ c.exceptionTable.toList, False := by
      obtain ⟨meth9, c9, h1, h2, -, -, -, -, h7, -⟩ := Cond.code_spec B.named (atoms_spec (ws := ws) B.pre _ (by rw [hw]; exact List.mem_cons_self))
      cases Option.some.inj (h1.symm.trans B.method)
      cases Option.some.inj (h2.symm.trans (Stand.of_body B).code)
      intro x hx
      rw [Array.isEmpty_iff.mp h7] at hx
      cases hx
    obtain ⟨t, a1, o, b1, b2, b3⟩ := body p e s m args below meth c s₁ B hml ht hP s₁ hh0 (Stand.of_body B)
    exact ⟨t, o, a1, b1, b2, b3⟩
/-- the table of a body with handlers -/
theorem vx_table {p : Program} {x y : MethodName} {S : Spec} {cc bytes : ByteArray} {maxL maxL' : Nat} {ret ret' : Option FieldType} {e : Env} {s s₁ : State} {m : MethodId} {args : Array Value} {below : List Frame} {meth : Method} {c : Code} {hh : List (Nat × Nat × Nat × Nat)}
    (B : BodyLoose p l y S cc maxL ret e s m args below meth c s₁) (h : (Cond.codeWith y bytes maxL' ret' hh).before args s = true) : c.exceptionTable.toList = tableOf hh := by
  obtain ⟨m9, meth9, c9, hn9, h1, h2, -, -, h6, -⟩ := Cond.codeWith_spec h
  cases Option.some.inj (hn9.symm.trans B.named)
  cases Option.some.inj (h1.symm.trans B.method)
  cases Option.some.inj (h2.symm.trans (Stand.of_body B).code)
  rw [← h6, table_eq]
end Bodies
end VXA
/-! ===== END ===== -/
/-! ===== BEGIN a static call of a method with an exception table ===== -/
section VXS
variable {p : Program} {l : Launch} {e : Env} {R : Room} {s : State} {m : MethodId} {args : Array Value} {below : List Frame} {meth : Method} {c : Code} {T : State} {H : Heap} {locs : List Loc} {cells slots : Nat}
abbrev vx_CSW (R : Room) (s : State) (args : Array Value) (own : String) (index : Nat) (y : MethodName) (bytes : ByteArray) (maxL : Nat) (ret : Option FieldType) (hh : List (Nat × Nat × Nat × Nat)) (ws : List Cond) (rm : Room) (mc ms n : Nat) : Prop :=
  (rm.cells = mc ∧ rm.slots = ms ∧ rm.frames + 1 ≤ R.frames ∧ 8 + (maxL + 11) + rm.locals ≤ R.locals ∧ (∀ w ∈ ws, ∀ (a' : Array Value) (U : State), s.WarmedH U.vm → w.before a' U = true) ∧ Cond.codeWith y bytes maxL ret hh ∈ ws) ∧
  (Cond.codeWith y bytes maxL ret hh).before args s = true ∧ (Cond.initialized y.cls).before args s = true ∧ (y.cls ≠ "java/lang/invoke/MethodHandle" ∧ y.cls ≠ "java/lang/invoke/VarHandle") ∧
  (∀ sig, parseMethodDescriptor y.desc = some sig → n = sig.parameters.length) ∧ (Cond.methodLink own index y).before args s = true ∧ (Cond.static y).before args s = true
theorem vx_cwSW {own : String} {index maxL mc ms : Nat} {y : MethodName} {bytes : ByteArray} {ret : Option FieldType} {hh : List (Nat × Nat × Nat × Nat)} {Ts ws ws' : List Cond} {rm : Room} (n : Nat) (ht : ∀ w ∈ Ts, w.before args s = true) (hT : GoodIn Ts (va_wsS own index y ws)) (hw : ws = Cond.codeWith y bytes maxL ret hh :: ws') (hrc : rm.cells = mc) (hrs : rm.slots = ms)
    (hd : y.cls ≠ "java/lang/invoke/MethodHandle" ∧ y.cls ≠ "java/lang/invoke/VarHandle" ∧ (parseMethodDescriptor y.desc).map (fun d => d.parameters.length) = some n) (hR : rm.frames + 1 ≤ R.frames ∧ 8 + (maxL + 11) + rm.locals ≤ R.locals) :
    vx_CSW R s args own index y bytes maxL ret hh ws rm mc ms n := by
  have ok : ∀ w ∈ va_wsS own index y ws, w.before args s = true := fun w h => ht w (hT w h).1
  have hG : GoodIn Ts ws := fun w h => hT w (by unfold va_wsS; exact List.mem_append_right _ h)
  have hc : Cond.codeWith y bytes maxL ret hh ∈ ws := by rw [hw]; exact List.mem_cons_self
  refine ⟨⟨hrc, hrs, hR.1, hR.2, pay_in ht hG, hc⟩, ht _ (hG _ hc).1, ok _ (by simp [va_wsS]), ⟨hd.1, hd.2.1⟩, fun sig h => ?_, ok _ (by simp [va_wsS]), ok _ (by simp [va_wsS])⟩
  have h2 := hd.2.2
  rw [h] at h2
  exact (Option.some.inj h2).symm
theorem vx_callSW (X : Stand p l e R s m args below meth c T locs cells slots) (hexec : p.tables.exec = Jvm.exec) {own : String} {index : Nat} {y : MethodName} {bytes : ByteArray} {maxL : Nat} {ret : Option FieldType} {hh : List (Nat × Nat × Nat × Nat)}
    (hown : s.vm.findClass own = some m.cls) (hlink : (Cond.methodLink own index y).before args s = true) (hstat : (Cond.static y).before args s = true) (hinit : (Cond.initialized y.cls).before args s = true)
    (hcode : (Cond.codeWith y bytes maxL ret hh).before args s = true) (hy : y.cls ≠ "java/lang/invoke/MethodHandle" ∧ y.cls ≠ "java/lang/invoke/VarHandle")
    {W9 : Nat} {Pre : Pt → Array Value → Prop} {Post : Pt → Array Value → Option Value → Pt → Prop} (hK : Back l R p e below s args y 3 W9 Pre Post)
    {g : JFrame} (hg : g.method = m) (hsize : g.locals.size = c.maxLocals) {argsL rest : List Value} (hlen : ∀ sig, parseMethodDescriptor y.desc = some sig → argsL.length = sig.parameters.length)
    (hstack : g.stack = argsL.reverse ++ rest) (hW : 2 * g.monitorRoom + (rest.map fun v => v.category).sum ≤ W9) (hdg : decode c.code g.pc = .ok (.invokestatic index, 3))
    (hpre : ∀ vm₁, s.WarmedH vm₁ → Pre ⟨T.setVm vm₁, locs, cells, slots⟩ argsL.toArray) :
    ∃ (v : Option Value) (vm₁ : Vm) (B : Pt), s.WarmedH vm₁ ∧ Stand p l e R s m args below meth c B.U B.locs B.cells B.slots ∧ Post ⟨T.setVm vm₁, locs, cells, slots⟩ argsL.toArray v B ∧
      ∀ target, Steps p.tables e below (B.U.setTop { g with pc := g.pc + 3, stack := v.toList ++ rest }) target → Steps p.tables e below (T.setTop g) target := by
  obtain ⟨mk, methM, cM, hnamed, hmethM, -, -, -, -, -, -, hsigM⟩ := Cond.codeWith_spec hcode
  have hstatic : methM.isStatic = true := Cond.static_spec hnamed hmethM hstat
  obtain ⟨kP, hkP, -⟩ := className_of_methodNamed hnamed
  have hinitP : kP.init = .initialized := Cond.initialized_spec (findClass_of_methodNamed hnamed) hkP hinit
  obtain ⟨vm₁, X₁, hstep₁⟩ := X.invokestatic hexec hown hlink hnamed hmethM hstatic hkP hinitP hy (g := g) hg (argsL := argsL) (rest := rest) (hlen _ hsigM) hstack hdg
  obtain ⟨v, B, X', hpost, hsteps⟩ := hK m meth c ⟨T.setVm vm₁, locs, cells, slots⟩ { g with stack := rest } (.invokestatic index) mk argsL.toArray X₁ hg hsize hdg hW (X₁.named hnamed) (hpre vm₁ X₁.warmed)
  exact ⟨v, vm₁, B, X₁.warmed, X', hpost, fun target h => hstep₁ _ fun acts => by rw [doInvoke_state]; exact hsteps.trans h⟩
theorem vx_runSW {y : MethodName} {bytes cc : ByteArray} {maxL nL mc ms n index : Nat} {ret : Option FieldType} {hh : List (Nat × Nat × Nat × Nat)} {ws : List Cond} {rm : Room} {Pc : Array Value → State → Prop} {Qc : Array Value → State → Outcome → State → Prop} {free : Addr → Prop} {Ts : List Cond} {own : String} {As rest : List Value} {g : JFrame}
    (S : CallFix p m c cc nL s args Ts own) (hM : Met l y ws rm Pc Qc mc ms free) (cw : vx_CSW R s args own index y bytes maxL ret hh ws rm mc ms n) (hp : PreS s H Pc As)
    (hg : g.method = m) (hn : As.length = n) (hsize : g.locals.size = nL) (hstack : g.stack = As.reverse ++ rest) (hW : 2 * g.monitorRoom + (rest.map fun v => v.category).sum ≤ 8) (hdg : decode cc g.pc = .ok (.invokestatic index, 3)) (hf : cells + mc ≤ R.cells ∧ slots + ms ≤ R.slots) :
    va_Run p l e R s m args below meth c H locs cells slots mc ms g rest (Qc As.toArray) (free) := by
  obtain ⟨⟨hrc, hrs, hfr, hlo, hws, hcw⟩, hcode, hini, hy, hlen, hl, hstt⟩ := cw
  have hK : Back l R p e below s args y 3 8 (PreOf R mc ms Pc) (PostOf Qc mc ms free) := va_backW (hh := hh) (bytes := bytes) (maxL := maxL) (ret := ret) hM hp.1 hrc hrs hfr hlo hws hcw (fun a' U hW => word_at hW (Or.inl (by first | rfl | simp [Cond.onTables, Cond.keeps, Cond.steady])) hini)
  obtain ⟨hx, hb, hml, ho, -⟩ := S
  intro T hT X
  obtain ⟨v, vm₁, ⟨U', l2, c2, s2⟩, hW₁, X', ⟨g', mk, t, L, e1, e2, hq, h1, hL, h2, h3⟩, st⟩ := vx_callSW X hx (hh := hh) (bytes := bytes) (maxL := maxL) (ret := ret) ho hl hstt hini hcode hy hK hg (hsize.trans hml.symm) (argsL := As) (rest := rest) (fun sig h => hn.trans (hlen sig h)) hstack hW (by rw [hb]; exact hdg)
    (fun vm₁ hW₁ => ⟨hf.1, hf.2, hp.2 (T.setVm vm₁) hT hW₁⟩)
  dsimp only [Pt.U, Pt.locs, Pt.cells, Pt.slots] at X' e1 e2 h1 h2 h3 st
  subst h1; subst h2; subst h3
  exact ⟨v, (T.setVm vm₁).calling g' mk As.toArray, t, U', L, hT, X', hL, e1, e2, hq, st⟩
/-- not caught here, past rows that name other classes: it goes on to the caller -/
theorem vx_outP {p : Program} {l : Launch} {e : Env} {R : Room} {s : State} {m : MethodId} {args : Array Value} {below : List Frame} {meth : Method} {c : Code} {H : Heap} {locs : List Loc} {cells slots : Nat} {free : Addr → Prop} {ls : Array Slot} {rest : List Value} {Qc : Array Value → State → Outcome → State → Prop} {XC : String → State → State → Prop}
    {pc : Nat} {own E : String} {ce : Cell} {q : Addr} {mc ms : Nat} (hown : s.vm.findClass own = some m.cls) (hlocks : meth.locks = false)
    (hpass : ∀ z ∈ c.exceptionTable.toList, covers z pc = false ∨ (z.catchType ≠ 0 ∧ ∃ nm : String, (Cond.classLink own z.catchType nm).before args s = true ∧ va_Nc E nm s)) (hcell : H[q]? = some ce) (hv : ce.vm = .none) (hcl : s.vm.findClass E = some ce.cls)
    (hx : ∀ t : State, t.heap = H → s.vm.Alike t.vm → XC E s t) (hf : ∀ z ∈ locs, free z.base) (hc : cells ≤ mc) (hs : slots ≤ ms) :
    vx_W p l e R s m args below meth c H locs cells slots (vx_MQ below Qc XC args s mc ms free) (F0 m pc ls rest) q := by
  intro T hT X
  have hpl : e.platform.magicAccessors = ({} : Platform).magicAccessors := by rw [X.admits.platform]
  obtain ⟨vm', hW', X', st⟩ := X.outThrough hlocks q (g := F0 m pc ls rest) rfl rfl rfl (cell := ce) (by rw [hT]; exact hcell) (by rw [hv]; rfl)
    (by obtain ⟨k9, h9, -⟩ := Vm.findClass_spec hcl; exact ⟨k9, h9⟩) (fun z hz => by
      rcases hpass z hz with h | ⟨hz0, nm, hl1, hn1⟩
      · exact Or.inl h
      · obtain ⟨c6, hc6, hcl6⟩ := Cond.classLink_spec hown hl1 e.platform hpl
        obtain ⟨a8, b8, h1, h2, h3⟩ := hn1
        cases Option.some.inj (h1.symm.trans hcl)
        cases Option.some.inj (h2.symm.trans hc6)
        exact Or.inr ⟨hz0, _, hcl6, h3⟩)
  obtain ⟨g₀, hfr⟩ := X'.frames_eq
  have hcell9 : ((T.setVm vm').setFrames (.throwing q :: below)).heap[q]? = some ce := by
    show T.heap[q]? = some ce
    rw [hT]; exact hcell
  have hend : Ended ((T.setVm vm').setFrames (.throwing q :: below)) below (.threw q) := State.frames_setFrames _ (State.cur_lt_of_frames hfr)
  refine ⟨(T.setVm vm').setFrames (.throwing q :: below), ?_, .threw q, X'.here.running, hend, Or.inr ⟨q, rfl, E, ce, locs, hx _ hT (X'.ends _).1.alike, hcell9, hv, hcl, (X'.ends _).1, (X'.ends _).2.mono hc hs, hf⟩⟩
  rw [X.pushThrowing_eq]
  exact st
/-- a thing of a world lies in the heap -/
theorem vx_lt {D : va_G} {cl : List vw_C} {ws : va_W} {H1 : Heap} (h : va_P D cl ws H1) {k : Nat} {q : Nat × va_E} (hk : ws[k]? = some q) : q.1 < H1.size := (h k q hk).lt
end VXS
/-! ===== END ===== -/
/-! ===== BEGIN methods with a table of their own: called by a name, returning or throwing ===== -/
section VXH
/-! vx_backW, vx_callVX, vx_callSX, vx_callVW, vx_runVW, vx_runVX, vx_runSX, vx_ofWH follow the same proofs as their sisters above (Free/Laws.lean, Shelf42/LK1.lean); vx_outP calls Shelf42/NT130.lean (outThrough). -/
section
variable {l : Launch} {R : Room} {p : Program} {e : Env} {below : List Frame} {s : State} {sargs : Array Value} {y : MethodName} {len W9 : Nat}
theorem vx_backW {ws : List Cond} {rm : Room} {Pc : Array Value → State → Prop} {Qc : Array Value → State → Outcome → State → Prop} {XC : String → State → State → Prop} {mc ms : Nat} {free : Addr → Prop} {bytes : ByteArray} {maxL : Nat} {ret : Option FieldType} {hh : List (Nat × Nat × Nat × Nat)}
    (hM : vx_Met l y ws rm Pc Qc XC mc ms free) (hblind : FrameBlind Pc) (hrc : rm.cells = mc) (hrs : rm.slots = ms)
    (hframes : rm.frames + 1 ≤ R.frames) (hlocals : W9 + (maxL + 11) + rm.locals ≤ R.locals)
    (hws : ∀ w ∈ ws, ∀ a' U, s.WarmedH U.vm → w.before a' U = true) (hcode : Cond.codeWith y bytes maxL ret hh ∈ ws) (hinit : ∀ a' U, s.WarmedH U.vm → (Cond.initialized y.cls).before a' U = true) :
    vx_Back l R p e below s sargs y len W9 (PreOf R mc ms Pc) (PostOf Qc mc ms free) (vx_Post XC mc ms free) := by
  intro m meth c A g ig mk a X hg hsize hdg hW hn hp
  have h1 : (headSpec ws rm).pre.before a A.U = true := atoms_intro fun w hw => hws w hw _ _ X.warmed
  have h2 : (Cond.codeWith y bytes maxL ret hh).before a A.U = true := hws _ hcode _ _ X.warmed
  have h3 : (Cond.initialized y.cls).before a A.U = true := hinit _ _ X.warmed
  have h4 : A.cells + (headSpec ws rm).room.cells ≤ R.cells := by rw [show (headSpec ws rm).room.cells = mc from hrc]; exact hp.1
  have h5 : A.slots + (headSpec ws rm).room.slots ≤ R.slots := by rw [show (headSpec ws rm).room.slots = ms from hrs]; exact hp.2.1
  have hPc : Pc a (A.U.calling g mk a) := hblind _ _ _ _ hp.2.2
  obtain ⟨U, Ls, c0, s0⟩ := A
  dsimp only [Pt.U, Pt.locs, Pt.cells, Pt.slots] at h1 h2 h3 h4 h5 X hn hPc ⊢
  obtain ⟨m9, methY, cY, hn9, hmY, hcY, -, hlY, -⟩ := Cond.codeWith_spec h2
  cases Option.some.inj (hn9.symm.trans hn)
  obtain ⟨kY, hkY, -⟩ := className_of_methodNamed hn
  have hinitY : kY.init = .initialized := Cond.initialized_spec (findClass_of_methodNamed hn) hkY h3
  have h : At U g.method c below := by rw [hg]; exact X.here
  have hlocals9 : W9 + (maxL + 11) + (headSpec ws rm).room.locals ≤ R.locals := hlocals
  have happ : (headSpec ws rm).appliesLoose y e.platform (U.calling g mk a) = true :=
    Spec.appliesLoose_calling (g := g) h hdg hn hkY hinitY
      (X.room_calling (g := g) (R' := (headSpec ws rm).room) hsize hmY hcY hframes (by rw [hlY]; omega) h4 h5) h1
  obtain ⟨mid, hmid⟩ := h.above
  have hfr : (U.setTop g).frames = (.java g :: mid) ++ below := by rw [State.frames_setTop' g h.top, hmid]; rfl
  obtain ⟨o, s₂, hsteps, -, hend, hq⟩ := Steps.callFree hM p X.admits X.cas X.clock (acts := []) hfr happ hPc trivial
  have hq' : vx_Q Qc XC mc ms free a (U.calling g mk a) o s₂ := hq
  rw [State.frames_setTop' g h.top] at hend
  obtain ⟨g₀, hg0⟩ := Option.isSome_iff_exists.mp h.top
  obtain ⟨r, hr⟩ := State.topJava?_eq_some.mp hg0
  have hr' : (({ U with heap := s₂.heap, slotsUsed := s₂.slotsUsed } : State).setVm s₂.vm).frames = .java g₀ :: r := hr
  rcases hq' with ⟨hqc, L, hfe, hL⟩ | ⟨q, rfl, E, ce, L, hx, hce, hcv, hcl, hW₂, hsm, hL⟩
  · obtain ⟨⟨v, rfl⟩, hW₂, e2, q2, q3, q4, q5, q6⟩ := id hfe
    have e3 : s₂ = ({ (U.calling g mk a).setFrames s₂.frames with heap := s₂.heap, slotsUsed := s₂.slotsUsed } : State).setVm s₂.vm := by
      have : s₂ = ({ s₂ with vm := (U.calling g mk a).vm } : State).setVm s₂.vm := rfl
      rw [e2] at this
      exact this
    obtain ⟨c₂, i₂, len₂, hc₂, hd₂, hf₂⟩ := hend
    have hW' : U.WarmedH s₂.vm := hW₂
    have hcc : c₂ = c := by
      have h1 : s₂.code? g.method = U.code? g.method := by
        rw [State.code?_eq, State.code?_eq, hW'.alike.method?]
      exact Option.some.inj (hc₂.symm.trans (h1.trans h.code))
    subst hcc
    have hlen : len₂ = len := by rw [hdg] at hd₂; cases hd₂; rfl
    subst hlen
    have hs₂ : s₂ = (({ U with heap := s₂.heap, slotsUsed := s₂.slotsUsed } : State).setVm s₂.vm).setTop { g with pc := g.pc + len₂, stack := v.toList ++ g.stack } := by
      refine e3.trans ?_
      rw [hf₂, State.calling_eq h.top, State.setFrames_setFrames, State.setTop_of_frames _ hr', hr]
      rfl
    have hsame : U.sameButNew ({ U with heap := s₂.heap, slotsUsed := s₂.slotsUsed } : State) L mc ms := by
      refine ⟨?_, q2, q3, q4, q5, q6⟩
      obtain ⟨t, ht, -⟩ := State.frames_cons hr
      show ({ U with heap := s₂.heap, slotsUsed := s₂.slotsUsed } : State) = { U.setFrames U.frames with heap := s₂.heap, slotsUsed := s₂.slotsUsed }
      rw [State.setFrames_self ht]
    subst hg
    refine Or.inl ⟨v, ⟨(({ U with heap := s₂.heap, slotsUsed := s₂.slotsUsed } : State).setVm s₂.vm), Ls ++ L, c0 + mc, s0 + ms⟩,
      ⟨X.admits, X.cas, X.clock, X.frames, X.room, X.hears, X.method, X.code, (X.here.setHeapUsed s₂.heap s₂.slotsUsed).setVm hW'.alike, X.tail, State.WarmedH.trans X.warmed hW', X.limits, X.bytes, X.same.trans (hsame.setVm s.vm)⟩,
      ⟨g, mk, s₂, L, rfl, rfl, hqc, rfl, hL, rfl, rfl⟩, ?_⟩
    show Steps p.tables e below _ ((({ U with heap := s₂.heap, slotsUsed := s₂.slotsUsed } : State).setVm s₂.vm).setTop { g with pc := g.pc + len₂, stack := v.toList ++ g.stack })
    rw [← hs₂]
    exact hsteps
  · obtain ⟨e2, q2, q3, q4, q5, q6⟩ := id hsm
    have e3 : s₂ = ({ (U.calling g mk a).setFrames s₂.frames with heap := s₂.heap, slotsUsed := s₂.slotsUsed } : State).setVm s₂.vm := by
      have : s₂ = ({ s₂ with vm := (U.calling g mk a).vm } : State).setVm s₂.vm := rfl
      rw [e2] at this
      exact this
    have hf₂ : s₂.frames = .throwing q :: .java g :: U.frames.tail := hend
    have hW' : U.WarmedH s₂.vm := hW₂
    have hs₂ : s₂ = ((({ U with heap := s₂.heap, slotsUsed := s₂.slotsUsed } : State).setVm s₂.vm).setTop g).pushFrame (.throwing q) := by
      refine e3.trans ?_
      rw [hf₂, State.calling_eq h.top, State.setFrames_setFrames, State.pushFrame, State.frames_setTop _ hr', State.setTop_of_frames _ hr', State.setFrames_setFrames, hr]
      rfl
    have hsame : U.sameButNew ({ U with heap := s₂.heap, slotsUsed := s₂.slotsUsed } : State) L mc ms := by
      refine ⟨?_, q2, q3, q4, q5, q6⟩
      obtain ⟨t, ht, -⟩ := State.frames_cons hr
      show ({ U with heap := s₂.heap, slotsUsed := s₂.slotsUsed } : State) = { U.setFrames U.frames with heap := s₂.heap, slotsUsed := s₂.slotsUsed }
      rw [State.setFrames_self ht]
    subst hg
    refine Or.inr ⟨q, ⟨(({ U with heap := s₂.heap, slotsUsed := s₂.slotsUsed } : State).setVm s₂.vm), Ls ++ L, c0 + mc, s0 + ms⟩,
      ⟨X.admits, X.cas, X.clock, X.frames, X.room, X.hears, X.method, X.code, (X.here.setHeapUsed s₂.heap s₂.slotsUsed).setVm hW'.alike, X.tail, State.WarmedH.trans X.warmed hW', X.limits, X.bytes, X.same.trans (hsame.setVm s.vm)⟩,
      ⟨g, mk, s₂, L, E, ce, rfl, rfl, hx, hce, hcv, hcl, rfl, hL, rfl, rfl⟩, ?_⟩
    show Steps p.tables e below _ (((({ U with heap := s₂.heap, slotsUsed := s₂.slotsUsed } : State).setVm s₂.vm).setTop g).pushFrame (.throwing q))
    rw [← hs₂]
    exact hsteps
end
variable {p : Program} {l : Launch} {e : Env} {R : Room} {s : State} {m : MethodId} {args : Array Value} {below : List Frame} {meth : Method} {c : Code} {T : State} {H : Heap} {locs : List Loc} {cells slots : Nat}
theorem vx_callVX (X : Stand p l e R s m args below meth c T locs cells slots) (hexec : p.tables.exec = Jvm.exec) {own C : String} {index : Nat} {y : MethodName} {bytes : ByteArray} {maxL : Nat} {ret : Option FieldType} {hh : List (Nat × Nat × Nat × Nat)}
    (hown : s.vm.findClass own = some m.cls) (hlink : (Cond.methodLink own index y).before args s = true) (hinst : (Cond.instanceMethod y).before args s = true) (hsel : (Cond.selects C y y).before args s = true)
    (hcode : (Cond.codeWith y bytes maxL ret hh).before args s = true) (hy : y.cls ≠ "java/lang/invoke/MethodHandle" ∧ y.cls ≠ "java/lang/invoke/VarHandle")
    {W9 : Nat} {Pre : Pt → Array Value → Prop} {Post : Pt → Array Value → Option Value → Pt → Prop} {PostX : Pt → Array Value → Addr → Pt → Prop} (hK : vx_Back l R p e below s args y 3 W9 Pre Post PostX)
    {b : Addr} {cellB : Cell} (hcell : T.heap[b]? = some cellB) (hobj : cellB.vm.isStatics = false) (hcls : s.vm.findClass C = some cellB.cls)
    {g : JFrame} (hg : g.method = m) (hsize : g.locals.size = c.maxLocals) {argsL rest : List Value} (hlen : ∀ sig, parseMethodDescriptor y.desc = some sig → argsL.length = sig.parameters.length)
    (hstack : g.stack = argsL.reverse ++ .ref b :: rest) (hW : 2 * g.monitorRoom + (rest.map fun v => v.category).sum ≤ W9) (hdg : decode c.code g.pc = .ok (.invokevirtual index, 3))
    (hpre : ∀ vm₁, s.WarmedH vm₁ → Pre ⟨T.setVm vm₁, locs, cells, slots⟩ (Value.ref b :: argsL).toArray) :
    (∃ (v : Option Value) (vm₁ : Vm) (B : Pt), s.WarmedH vm₁ ∧ Stand p l e R s m args below meth c B.U B.locs B.cells B.slots ∧ Post ⟨T.setVm vm₁, locs, cells, slots⟩ (Value.ref b :: argsL).toArray v B ∧
      ∀ target, Steps p.tables e below (B.U.setTop { g with pc := g.pc + 3, stack := v.toList ++ rest }) target → Steps p.tables e below (T.setTop g) target) ∨
    (∃ (q : Addr) (vm₁ : Vm) (B : Pt), s.WarmedH vm₁ ∧ Stand p l e R s m args below meth c B.U B.locs B.cells B.slots ∧ PostX ⟨T.setVm vm₁, locs, cells, slots⟩ (Value.ref b :: argsL).toArray q B ∧
      Steps p.tables e below (T.setTop g) ((B.U.setTop { g with stack := rest }).pushFrame (.throwing q))) := by
  obtain ⟨mk, methM, hnamed, hmethM, hstM, habM⟩ := Cond.instanceMethod_spec hinst
  obtain ⟨m8, methM', cM, hn8, hmethM', -, -, -, -, -, -, hsigM⟩ := Cond.codeWith_spec hcode
  cases Option.some.inj (hn8.symm.trans hnamed)
  cases hmethM.symm.trans hmethM'
  obtain ⟨c2, r2, m2, q1, q2, q3, q4, kP, hkP, hkPi⟩ := Cond.selects_spec hsel
  cases hcls.symm.trans q1
  cases (State.methodFound?_of_named hnamed hy).symm.trans q2
  cases hnamed.symm.trans q3
  have hselP : selectMethod e.platform s.vm cellB.cls mk = .method mk := by rw [Launch.admits_selectMethod X.admits]; exact q4
  obtain ⟨vm₁, X₁, hstep₁⟩ := X.invokevirtual hexec hown hlink hnamed hmethM hstM hkP hkPi hy (a := b) (cell := cellB) hcell
    (fun z h => by rw [h] at hobj; cases hobj) hselP hmethM habM hkP hkPi (g := g) hg (argsL := argsL) (rest := rest) (hlen _ hsigM) hstack hdg
  rcases hK m meth c ⟨T.setVm vm₁, locs, cells, slots⟩ { g with stack := rest } (.invokevirtual index) mk (Value.ref b :: argsL).toArray X₁ hg hsize hdg hW (X₁.named hnamed) (hpre vm₁ X₁.warmed) with ⟨v, B, X', hpost, hsteps⟩ | ⟨q, B, X', hpost, hsteps⟩
  · exact Or.inl ⟨v, vm₁, B, X₁.warmed, X', hpost, fun target h => hstep₁ _ fun acts => by rw [doInvoke_state]; exact hsteps.trans h⟩
  · exact Or.inr ⟨q, vm₁, B, X₁.warmed, X', hpost, hstep₁ _ fun acts => by rw [doInvoke_state]; exact hsteps⟩
theorem vx_callSX (X : Stand p l e R s m args below meth c T locs cells slots) (hexec : p.tables.exec = Jvm.exec) {own : String} {index : Nat} {y : MethodName} {bytes : ByteArray} {maxL : Nat} {ret : Option FieldType} {hh : List (Nat × Nat × Nat × Nat)}
    (hown : s.vm.findClass own = some m.cls) (hlink : (Cond.methodLink own index y).before args s = true) (hstat : (Cond.static y).before args s = true) (hinit : (Cond.initialized y.cls).before args s = true)
    (hcode : (Cond.codeWith y bytes maxL ret hh).before args s = true) (hy : y.cls ≠ "java/lang/invoke/MethodHandle" ∧ y.cls ≠ "java/lang/invoke/VarHandle")
    {W9 : Nat} {Pre : Pt → Array Value → Prop} {Post : Pt → Array Value → Option Value → Pt → Prop} {PostX : Pt → Array Value → Addr → Pt → Prop} (hK : vx_Back l R p e below s args y 3 W9 Pre Post PostX)
    {g : JFrame} (hg : g.method = m) (hsize : g.locals.size = c.maxLocals) {argsL rest : List Value} (hlen : ∀ sig, parseMethodDescriptor y.desc = some sig → argsL.length = sig.parameters.length)
    (hstack : g.stack = argsL.reverse ++ rest) (hW : 2 * g.monitorRoom + (rest.map fun v => v.category).sum ≤ W9) (hdg : decode c.code g.pc = .ok (.invokestatic index, 3))
    (hpre : ∀ vm₁, s.WarmedH vm₁ → Pre ⟨T.setVm vm₁, locs, cells, slots⟩ argsL.toArray) :
    (∃ (v : Option Value) (vm₁ : Vm) (B : Pt), s.WarmedH vm₁ ∧ Stand p l e R s m args below meth c B.U B.locs B.cells B.slots ∧ Post ⟨T.setVm vm₁, locs, cells, slots⟩ argsL.toArray v B ∧
      ∀ target, Steps p.tables e below (B.U.setTop { g with pc := g.pc + 3, stack := v.toList ++ rest }) target → Steps p.tables e below (T.setTop g) target) ∨
    (∃ (q : Addr) (vm₁ : Vm) (B : Pt), s.WarmedH vm₁ ∧ Stand p l e R s m args below meth c B.U B.locs B.cells B.slots ∧ PostX ⟨T.setVm vm₁, locs, cells, slots⟩ argsL.toArray q B ∧
      Steps p.tables e below (T.setTop g) ((B.U.setTop { g with stack := rest }).pushFrame (.throwing q))) := by
  obtain ⟨mk, methM, cM, hnamed, hmethM, -, -, -, -, -, -, hsigM⟩ := Cond.codeWith_spec hcode
  have hstatic : methM.isStatic = true := Cond.static_spec hnamed hmethM hstat
  obtain ⟨kP, hkP, -⟩ := className_of_methodNamed hnamed
  have hinitP : kP.init = .initialized := Cond.initialized_spec (findClass_of_methodNamed hnamed) hkP hinit
  obtain ⟨vm₁, X₁, hstep₁⟩ := X.invokestatic hexec hown hlink hnamed hmethM hstatic hkP hinitP hy (g := g) hg (argsL := argsL) (rest := rest) (hlen _ hsigM) hstack hdg
  rcases hK m meth c ⟨T.setVm vm₁, locs, cells, slots⟩ { g with stack := rest } (.invokestatic index) mk argsL.toArray X₁ hg hsize hdg hW (X₁.named hnamed) (hpre vm₁ X₁.warmed) with ⟨v, B, X', hpost, hsteps⟩ | ⟨q, B, X', hpost, hsteps⟩
  · exact Or.inl ⟨v, vm₁, B, X₁.warmed, X', hpost, fun target h => hstep₁ _ fun acts => by rw [doInvoke_state]; exact hsteps.trans h⟩
  · exact Or.inr ⟨q, vm₁, B, X₁.warmed, X', hpost, hstep₁ _ fun acts => by rw [doInvoke_state]; exact hsteps⟩
theorem vx_callVW (X : Stand p l e R s m args below meth c T locs cells slots) (hexec : p.tables.exec = Jvm.exec) {own C : String} {index : Nat} {y : MethodName} {bytes : ByteArray} {maxL : Nat} {ret : Option FieldType} {hh : List (Nat × Nat × Nat × Nat)}
    (hown : s.vm.findClass own = some m.cls) (hlink : (Cond.methodLink own index y).before args s = true) (hinst : (Cond.instanceMethod y).before args s = true) (hsel : (Cond.selects C y y).before args s = true)
    (hcode : (Cond.codeWith y bytes maxL ret hh).before args s = true) (hy : y.cls ≠ "java/lang/invoke/MethodHandle" ∧ y.cls ≠ "java/lang/invoke/VarHandle")
    {W9 : Nat} {Pre : Pt → Array Value → Prop} {Post : Pt → Array Value → Option Value → Pt → Prop} (hK : Back l R p e below s args y 3 W9 Pre Post)
    {b : Addr} {cellB : Cell} (hcell : T.heap[b]? = some cellB) (hobj : cellB.vm.isStatics = false) (hcls : s.vm.findClass C = some cellB.cls)
    {g : JFrame} (hg : g.method = m) (hsize : g.locals.size = c.maxLocals) {argsL rest : List Value} (hlen : ∀ sig, parseMethodDescriptor y.desc = some sig → argsL.length = sig.parameters.length)
    (hstack : g.stack = argsL.reverse ++ .ref b :: rest) (hW : 2 * g.monitorRoom + (rest.map fun v => v.category).sum ≤ W9) (hdg : decode c.code g.pc = .ok (.invokevirtual index, 3))
    (hpre : ∀ vm₁, s.WarmedH vm₁ → Pre ⟨T.setVm vm₁, locs, cells, slots⟩ (Value.ref b :: argsL).toArray) :
    ∃ (v : Option Value) (vm₁ : Vm) (B : Pt), s.WarmedH vm₁ ∧ Stand p l e R s m args below meth c B.U B.locs B.cells B.slots ∧ Post ⟨T.setVm vm₁, locs, cells, slots⟩ (Value.ref b :: argsL).toArray v B ∧
      ∀ target, Steps p.tables e below (B.U.setTop { g with pc := g.pc + 3, stack := v.toList ++ rest }) target → Steps p.tables e below (T.setTop g) target := by
  obtain ⟨mk, methM, hnamed, hmethM, hstM, habM⟩ := Cond.instanceMethod_spec hinst
  obtain ⟨m8, methM', cM, hn8, hmethM', -, -, -, -, -, -, hsigM⟩ := Cond.codeWith_spec hcode
  cases Option.some.inj (hn8.symm.trans hnamed)
  cases hmethM.symm.trans hmethM'
  obtain ⟨c2, r2, m2, q1, q2, q3, q4, kP, hkP, hkPi⟩ := Cond.selects_spec hsel
  cases hcls.symm.trans q1
  cases (State.methodFound?_of_named hnamed hy).symm.trans q2
  cases hnamed.symm.trans q3
  have hselP : selectMethod e.platform s.vm cellB.cls mk = .method mk := by rw [Launch.admits_selectMethod X.admits]; exact q4
  obtain ⟨vm₁, X₁, hstep₁⟩ := X.invokevirtual hexec hown hlink hnamed hmethM hstM hkP hkPi hy (a := b) (cell := cellB) hcell
    (fun z h => by rw [h] at hobj; cases hobj) hselP hmethM habM hkP hkPi (g := g) hg (argsL := argsL) (rest := rest) (hlen _ hsigM) hstack hdg
  obtain ⟨v, B, X', hpost, hsteps⟩ := hK m meth c ⟨T.setVm vm₁, locs, cells, slots⟩ { g with stack := rest } (.invokevirtual index) mk (Value.ref b :: argsL).toArray X₁ hg hsize hdg hW (X₁.named hnamed) (hpre vm₁ X₁.warmed)
  exact ⟨v, vm₁, B, X₁.warmed, X', hpost, fun target h => hstep₁ _ fun acts => by rw [doInvoke_state]; exact hsteps.trans h⟩
abbrev vx_CVW (R : Room) (s : State) (args : Array Value) (own C : String) (index : Nat) (y : MethodName) (bytes : ByteArray) (maxL : Nat) (ret : Option FieldType) (hh : List (Nat × Nat × Nat × Nat)) (ws : List Cond) (rm : Room) (mc ms n : Nat) : Prop :=
  (rm.cells = mc ∧ rm.slots = ms ∧ rm.frames + 1 ≤ R.frames ∧ 8 + (maxL + 11) + rm.locals ≤ R.locals ∧ (∀ w ∈ ws, ∀ (a' : Array Value) (U : State), s.WarmedH U.vm → w.before a' U = true) ∧ Cond.codeWith y bytes maxL ret hh ∈ ws) ∧
  (Cond.codeWith y bytes maxL ret hh).before args s = true ∧ (Cond.initialized y.cls).before args s = true ∧ (y.cls ≠ "java/lang/invoke/MethodHandle" ∧ y.cls ≠ "java/lang/invoke/VarHandle") ∧
  (∀ sig, parseMethodDescriptor y.desc = some sig → n = sig.parameters.length) ∧ (Cond.methodLink own index y).before args s = true ∧ (Cond.instanceMethod y).before args s = true ∧ (Cond.selects C y y).before args s = true
theorem vx_cwVW {own C : String} {index maxL mc ms : Nat} {y : MethodName} {bytes : ByteArray} {ret : Option FieldType} {hh : List (Nat × Nat × Nat × Nat)} {Ts ws ws' : List Cond} {rm : Room} (n : Nat) (ht : ∀ w ∈ Ts, w.before args s = true) (hT : GoodIn Ts (wsV own index C y ws)) (hw : ws = Cond.codeWith y bytes maxL ret hh :: ws') (hrc : rm.cells = mc) (hrs : rm.slots = ms)
    (hd : y.cls = C ∧ y.cls ≠ "java/lang/invoke/MethodHandle" ∧ y.cls ≠ "java/lang/invoke/VarHandle" ∧ (parseMethodDescriptor y.desc).map (fun d => d.parameters.length) = some n) (hR : rm.frames + 1 ≤ R.frames ∧ 8 + (maxL + 11) + rm.locals ≤ R.locals) :
    vx_CVW R s args own C index y bytes maxL ret hh ws rm mc ms n := by
  obtain ⟨hC, hd⟩ := hd
  subst hC
  have ok : ∀ w ∈ wsV own index y.cls y ws, w.before args s = true := fun w h => ht w (hT w h).1
  have hG : GoodIn Ts ws := fun w h => hT w (by unfold wsV; exact List.mem_append_right _ h)
  have hc : Cond.codeWith y bytes maxL ret hh ∈ ws := by rw [hw]; exact List.mem_cons_self
  refine ⟨⟨hrc, hrs, hR.1, hR.2, pay_in ht hG, hc⟩, ht _ (hG _ hc).1, ok _ (by simp [wsV]), ⟨hd.1, hd.2.1⟩, fun sig h => ?_, ok _ (by simp [wsV]), ok _ (by simp [wsV]), ok _ (by simp [wsV])⟩
  have h2 := hd.2.2
  rw [h] at h2
  exact (Option.some.inj h2).symm
theorem vx_runVW {y : MethodName} {bytes cc : ByteArray} {maxL nL mc ms n index : Nat} {ret : Option FieldType} {hh : List (Nat × Nat × Nat × Nat)} {ws : List Cond} {rm : Room} {Pc : Array Value → State → Prop} {Qc : Array Value → State → Outcome → State → Prop} {free : Addr → Prop} {Ts : List Cond} {own C : String} {b : Addr} {As rest : List Value} {g : JFrame}
    (S : CallFix p m c cc nL s args Ts own) (hM : Met l y ws rm Pc Qc mc ms free) (cw : vx_CVW R s args own C index y bytes maxL ret hh ws rm mc ms n) (hp : PreV s H C b Pc As)
    (hg : g.method = m) (hn : As.length = n) (hsize : g.locals.size = nL) (hstack : g.stack = As.reverse ++ .ref b :: rest) (hW : 2 * g.monitorRoom + (rest.map fun v => v.category).sum ≤ 8) (hdg : decode cc g.pc = .ok (.invokevirtual index, 3)) (hf : cells + mc ≤ R.cells ∧ slots + ms ≤ R.slots) :
    va_Run p l e R s m args below meth c H locs cells slots mc ms g rest (Qc (Value.ref b :: As).toArray) free := by
  obtain ⟨⟨hrc, hrs, hfr, hlo, hws, hcw⟩, hcode, hini, hy, hlen, hl, hin, hse⟩ := cw
  have hK : Back l R p e below s args y 3 8 (PreOf R mc ms Pc) (PostOf Qc mc ms free) := va_backW (hh := hh) (bytes := bytes) (maxL := maxL) (ret := ret) hM hp.1 hrc hrs hfr hlo hws hcw (fun a' U hW => word_at hW (Or.inl (by first | rfl | simp [Cond.onTables, Cond.keeps, Cond.steady])) hini)
  obtain ⟨hx, hb, hml, ho, -⟩ := S
  obtain ⟨-, ⟨cellB, hcB, hoB, hclB⟩, hPc⟩ := hp
  intro T hT X
  obtain ⟨v, vm₁, ⟨U', l2, c2, s2⟩, hW₁, X', ⟨g', mk, t, L, e1, e2, hq, h1, hL, h2, h3⟩, st⟩ := vx_callVW X hx (C := C) (hh := hh) (bytes := bytes) (maxL := maxL) (ret := ret) ho hl hin hse hcode hy hK (by rw [hT]; exact hcB) hoB hclB hg (hsize.trans hml.symm) (argsL := As) (rest := rest) (fun sig h => hn.trans (hlen sig h)) hstack hW (by rw [hb]; exact hdg)
    (fun vm₁ hW₁ => ⟨hf.1, hf.2, hPc (T.setVm vm₁) hT hW₁⟩)
  dsimp only [Pt.U, Pt.locs, Pt.cells, Pt.slots] at X' e1 e2 h1 h2 h3 st
  subst h1; subst h2; subst h3
  exact ⟨v, (T.setVm vm₁).calling g' mk (Value.ref b :: As).toArray, t, U', L, hT, X', hL, e1, e2, hq, st⟩
section
variable {y : MethodName} {bytes cc : ByteArray} {maxL nL mc ms n index : Nat} {ret : Option FieldType} {ws : List Cond} {rm : Room} {Pc : Array Value → State → Prop} {Qc : Array Value → State → Outcome → State → Prop} {XC : String → State → State → Prop} {free : Addr → Prop} {Ts : List Cond} {own C : String} {b : Addr} {As rest : List Value} {g : JFrame}
theorem vx_runVX {hh : List (Nat × Nat × Nat × Nat)} (S : CallFix p m c cc nL s args Ts own) (hM : vx_Met l y ws rm Pc Qc XC mc ms free) (cw : vx_CVW R s args own C index y bytes maxL ret hh ws rm mc ms n) (hp : PreV s H C b Pc As)
    (hg : g.method = m) (hn : As.length = n) (hsize : g.locals.size = nL) (hstack : g.stack = As.reverse ++ .ref b :: rest) (hW : 2 * g.monitorRoom + (rest.map fun v => v.category).sum ≤ 8) (hdg : decode cc g.pc = .ok (.invokevirtual index, 3)) (hf : cells + mc ≤ R.cells ∧ slots + ms ≤ R.slots) :
    vx_Run p l e R s m args below meth c H locs cells slots mc ms g rest (Qc (Value.ref b :: As).toArray) XC free := by
  obtain ⟨⟨hrc, hrs, hfr, hlo, hws, hcw⟩, hcode, hini, hy, hlen, hl, hin, hse⟩ := cw
  have hK : vx_Back l R p e below s args y 3 8 (PreOf R mc ms Pc) (PostOf Qc mc ms free) (vx_Post XC mc ms free) := vx_backW (hh := hh) (bytes := bytes) (maxL := maxL) (ret := ret) hM hp.1 hrc hrs hfr hlo hws hcw (fun a' U hW => word_at hW (Or.inl (by first | rfl | simp [Cond.onTables, Cond.keeps, Cond.steady])) hini)
  obtain ⟨hx, hb, hml, ho, -⟩ := S
  obtain ⟨-, ⟨cellB, hcB, hoB, hclB⟩, hPc⟩ := hp
  intro T hT X
  rcases vx_callVX X hx (C := C) (hh := hh) (bytes := bytes) (maxL := maxL) (ret := ret) ho hl hin hse hcode hy hK (by rw [hT]; exact hcB) hoB hclB hg (hsize.trans hml.symm) (argsL := As) (rest := rest) (fun sig h => hn.trans (hlen sig h)) hstack hW (by rw [hb]; exact hdg)
    (fun vm₁ hW₁ => ⟨hf.1, hf.2, hPc (T.setVm vm₁) hT hW₁⟩) with ⟨v, vm₁, ⟨U', l2, c2, s2⟩, hW₁, X', ⟨g', mk, t, L, e1, e2, hq, h1, hL, h2, h3⟩, st⟩ | ⟨q, vm₁, ⟨U', l2, c2, s2⟩, hW₁, X', ⟨g', mk, t, L, E, ce, e1, e2, hq, hce, hcv, hcl, h1, hL, h2, h3⟩, st⟩
  · dsimp only [Pt.U, Pt.locs, Pt.cells, Pt.slots] at X' e1 e2 h1 h2 h3 st
    subst h1; subst h2; subst h3
    exact Or.inl ⟨v, (T.setVm vm₁).calling g' mk (Value.ref b :: As).toArray, t, U', L, hT, X', hL, e1, e2, hq, st⟩
  · dsimp only [Pt.U, Pt.locs, Pt.cells, Pt.slots] at X' e1 e2 h1 h2 h3 st hcl
    subst h1; subst h2; subst h3
    exact Or.inr ⟨q, (T.setVm vm₁).calling g' mk (Value.ref b :: As).toArray, t, U', L, E, ce, hT, X', hL, e1, e2, hq, hce, hcv, vx_cls hW₁ hcl, st⟩
theorem vx_runSX {hh : List (Nat × Nat × Nat × Nat)} (S : CallFix p m c cc nL s args Ts own) (hM : vx_Met l y ws rm Pc Qc XC mc ms free) (cw : vx_CSW R s args own index y bytes maxL ret hh ws rm mc ms n) (hp : PreS s H Pc As)
    (hg : g.method = m) (hn : As.length = n) (hsize : g.locals.size = nL) (hstack : g.stack = As.reverse ++ rest) (hW : 2 * g.monitorRoom + (rest.map fun v => v.category).sum ≤ 8) (hdg : decode cc g.pc = .ok (.invokestatic index, 3)) (hf : cells + mc ≤ R.cells ∧ slots + ms ≤ R.slots) :
    vx_Run p l e R s m args below meth c H locs cells slots mc ms g rest (Qc As.toArray) XC free := by
  obtain ⟨⟨hrc, hrs, hfr, hlo, hws, hcw⟩, hcode, hini, hy, hlen, hl, hstt⟩ := cw
  have hK : vx_Back l R p e below s args y 3 8 (PreOf R mc ms Pc) (PostOf Qc mc ms free) (vx_Post XC mc ms free) := vx_backW (hh := hh) (bytes := bytes) (maxL := maxL) (ret := ret) hM hp.1 hrc hrs hfr hlo hws hcw (fun a' U hW => word_at hW (Or.inl (by first | rfl | simp [Cond.onTables, Cond.keeps, Cond.steady])) hini)
  obtain ⟨hx, hb, hml, ho, -⟩ := S
  intro T hT X
  rcases vx_callSX X hx (hh := hh) (bytes := bytes) (maxL := maxL) (ret := ret) ho hl hstt hini hcode hy hK hg (hsize.trans hml.symm) (argsL := As) (rest := rest) (fun sig h => hn.trans (hlen sig h)) hstack hW (by rw [hb]; exact hdg)
    (fun vm₁ hW₁ => ⟨hf.1, hf.2, hp.2 (T.setVm vm₁) hT hW₁⟩) with ⟨v, vm₁, ⟨U', l2, c2, s2⟩, hW₁, X', ⟨g', mk, t, L, e1, e2, hq, h1, hL, h2, h3⟩, st⟩ | ⟨q, vm₁, ⟨U', l2, c2, s2⟩, hW₁, X', ⟨g', mk, t, L, E, ce, e1, e2, hq, hce, hcv, hcl, h1, hL, h2, h3⟩, st⟩
  · dsimp only [Pt.U, Pt.locs, Pt.cells, Pt.slots] at X' e1 e2 h1 h2 h3 st
    subst h1; subst h2; subst h3
    exact Or.inl ⟨v, (T.setVm vm₁).calling g' mk As.toArray, t, U', L, hT, X', hL, e1, e2, hq, st⟩
  · dsimp only [Pt.U, Pt.locs, Pt.cells, Pt.slots] at X' e1 e2 h1 h2 h3 st hcl
    subst h1; subst h2; subst h3
    exact Or.inr ⟨q, (T.setVm vm₁).calling g' mk As.toArray, t, U', L, E, ce, hT, X', hL, e1, e2, hq, hce, hcv, vx_cls hW₁ hcl, st⟩
end
end VXH
theorem vx_ofWH {l : Launch} {y : MethodName} {ws ws' : List Cond} {rm : Room} {Pc : Array Value → State → Prop} {Qc : Array Value → State → Outcome → State → Prop} {XC : String → State → State → Prop} {mc ms : Nat} {free : Addr → Prop} {cc : ByteArray} {maxL : Nat} {ret : Option FieldType} {hh : List (Nat × Nat × Nat × Nat)}
    (hy : plainName y.cls = true) (hw : ws = Cond.codeWith y cc maxL ret hh :: ws')
    (body : ∀ p e s m args below meth c s₁, BodyLoose p l y (headSpec ws rm) cc maxL ret e s m args below meth c s₁ → c.maxLocals = maxL → Pc args s →
      W p l e (headSpec ws rm).room s m args below meth c s.heap [] 0 0 (vx_MQ below Qc XC args s mc ms free) (entryFrame m args maxL)) : vx_Met l y ws rm Pc Qc XC mc ms free := by
  refine MetFree.of_bodyS (code := cc) (maxLocals := maxL) (ret := ret) hy ?_ ?_
  · intro args s m h hn
    obtain ⟨m9, meth, c, hn9, h1, h2, h3, h4, -, h5, h6, -⟩ := Cond.codeWith_spec (atoms_spec (ws := ws) h _ (by rw [hw]; exact List.mem_cons_self))
    cases hn.symm.trans hn9
    exact ⟨meth, c, h1, h2, h3, h4, h5, h6⟩
  · intro p e s m args below meth c s₁ B hml hP _
    have hh0 : s₁.heap = s.heap := by rw [B.state]; rfl
    obtain ⟨t, a1, o, b1, b2, b3⟩ := body p e s m args below meth c s₁ B hml hP s₁ hh0 (Stand.of_body B)
    exact ⟨t, o, a1, b1, b2, b3⟩
/-! ===== END ===== -/

/-! ===== BEGIN a constructor that throws (launches without stack traces) ===== -/
section VXIA
variable {p : Program} {l : Launch} {e : Env} {R : Room} {s : State} {m : MethodId} {args : Array Value} {below : List Frame} {meth : Method} {c : Code} {T : State} {locs : List Loc} {cells slots : Nat}
theorem vx_callI (X : Stand p l e R s m args below meth c T locs cells slots) (hexec : p.tables.exec = Jvm.exec) {own : String} {index : Nat} {y : MethodName} {bytes : ByteArray} {maxL : Nat}
    (hown : s.vm.findClass own = some m.cls) (hy1 : y.name = "<init>") (hlink : (Cond.methodLink own index y).before args s = true) (hinst : (Cond.instanceMethod y).before args s = true)
    (hcode : (Cond.code y bytes maxL none).before args s = true) (hy : y.cls ≠ "java/lang/invoke/MethodHandle" ∧ y.cls ≠ "java/lang/invoke/VarHandle")
    {W9 : Nat} {Pre : Pt → Array Value → Prop} {Post : Pt → Array Value → Option Value → Pt → Prop} {PostX : Pt → Array Value → Addr → Pt → Prop} (hK : vx_Back l R p e below s args y 3 W9 Pre Post PostX)
    {g : JFrame} (hg : g.method = m) (hsize : g.locals.size = c.maxLocals) {a : Addr} {argsL rest : List Value} (hlen : ∀ sig, parseMethodDescriptor y.desc = some sig → argsL.length = sig.parameters.length)
    (hstack : g.stack = argsL.reverse ++ .ref a :: rest) (hW : 2 * g.monitorRoom + (rest.map fun v => v.category).sum ≤ W9) (hdg : decode c.code g.pc = .ok (.invokespecial index, 3))
    (hpre : ∀ vm₁, s.WarmedH vm₁ → Pre ⟨T.setVm vm₁, locs, cells, slots⟩ (Value.ref a :: argsL).toArray) :
    (∃ (v : Option Value) (vm₁ : Vm) (B : Pt), s.WarmedH vm₁ ∧ Stand p l e R s m args below meth c B.U B.locs B.cells B.slots ∧ Post ⟨T.setVm vm₁, locs, cells, slots⟩ (Value.ref a :: argsL).toArray v B ∧
      ∀ target, Steps p.tables e below (B.U.setTop { g with pc := g.pc + 3, stack := v.toList ++ rest }) target → Steps p.tables e below (T.setTop g) target) ∨
    (∃ (q : Addr) (vm₁ : Vm) (B : Pt), s.WarmedH vm₁ ∧ Stand p l e R s m args below meth c B.U B.locs B.cells B.slots ∧ PostX ⟨T.setVm vm₁, locs, cells, slots⟩ (Value.ref a :: argsL).toArray q B ∧
      Steps p.tables e below (T.setTop g) ((B.U.setTop { g with stack := rest }).pushFrame (.throwing q))) := by
  subst hg
  have hpl : e.platform.magicAccessors = ({} : Platform).magicAccessors := by rw [X.admits.platform]
  obtain ⟨mk, methM, cM, kP, vm₁, hnamed, hmethM, hcodeM, -, hlocalsM, -, hkP, -, hW₁, hstep₁⟩ := Steps.initColdArgs (e := e) X.here hexec X.warmed hpl hown hy1 hy hlink hinst hcode (f := g) rfl hlen hstack hdg
  have X₁ := X.noted hW₁
  rcases hK g.method meth c ⟨T.setVm vm₁, locs, cells, slots⟩ { g with stack := rest } (.invokespecial index) mk (Value.ref a :: argsL).toArray X₁ rfl hsize hdg hW (X₁.named hnamed) (hpre vm₁ X₁.warmed) with ⟨v, B, X', hpost, hsteps⟩ | ⟨q, B, X', hpost, hsteps⟩
  · exact Or.inl ⟨v, vm₁, B, X₁.warmed, X', hpost, fun target h => hstep₁ _ fun acts => by rw [doInvoke_state]; exact hsteps.trans h⟩
  · exact Or.inr ⟨q, vm₁, B, X₁.warmed, X', hpost, hstep₁ _ fun acts => by rw [doInvoke_state]; exact hsteps⟩
end VXIA
section VXIB
variable {p : Program} {l : Launch} {e : Env} {R : Room} {s : State} {m : MethodId} {args : Array Value} {below : List Frame} {meth : Method} {c : Code} {H : Heap} {locs : List Loc} {cells slots : Nat}
variable {y : MethodName} {bytes cc : ByteArray} {maxL nL mc ms n index : Nat} {ret : Option FieldType} {ws : List Cond} {rm : Room} {Pc : Array Value → State → Prop} {Qc : Array Value → State → Outcome → State → Prop} {XC : String → State → State → Prop} {free : Addr → Prop} {Ts : List Cond} {own C : String} {b : Addr} {As rest : List Value} {g : JFrame}
theorem vx_runI (S : CallFix p m c cc nL s args Ts own) (hM : vx_Met l y ws rm Pc Qc XC mc ms free) (cw : CallB R s args own index y bytes maxL none ws rm mc ms n ∧ y.name = "<init>" ∧ (Cond.instanceMethod y).before args s = true) (hp : PreS s H Pc (.ref b :: As))
    (hg : g.method = m) (hn : As.length = n) (hsize : g.locals.size = nL) (hstack : g.stack = As.reverse ++ .ref b :: rest) (hW : 2 * g.monitorRoom + (rest.map fun v => v.category).sum ≤ 8) (hdg : decode cc g.pc = .ok (.invokespecial index, 3)) (hf : cells + mc ≤ R.cells ∧ slots + ms ≤ R.slots) :
    vx_Run p l e R s m args below meth c H locs cells slots mc ms g rest (Qc (Value.ref b :: As).toArray) XC free := by
  have hK : vx_Back l R p e below s args y 3 8 (PreOf R mc ms Pc) (PostOf Qc mc ms free) (vx_Post XC mc ms free) := vx_callBack cw.1 hM hp.1
  obtain ⟨⟨-, -, -, -, -, -, hcode, -, hy, hlen, hl⟩, hy1, hin⟩ := cw
  obtain ⟨hx, hb, hml, ho, -⟩ := S
  have hPc := hp.2
  intro T hT X
  rcases vx_callI X hx (bytes := bytes) (maxL := maxL) ho hy1 hl hin hcode hy hK hg (hsize.trans hml.symm) (a := b) (argsL := As) (rest := rest) (fun sig h => hn.trans (hlen sig h)) hstack hW (by rw [hb]; exact hdg)
    (fun vm₁ hW₁ => ⟨hf.1, hf.2, hPc (T.setVm vm₁) hT hW₁⟩) with ⟨v, vm₁, ⟨U', l2, c2, s2⟩, hW₁, X', ⟨g', mk, t, L, e1, e2, hq, h1, hL, h2, h3⟩, st⟩ | ⟨q, vm₁, ⟨U', l2, c2, s2⟩, hW₁, X', ⟨g', mk, t, L, E, ce, e1, e2, hq, hce, hcv, hcl, h1, hL, h2, h3⟩, st⟩
  · dsimp only [Pt.U, Pt.locs, Pt.cells, Pt.slots] at X' e1 e2 h1 h2 h3 st
    subst h1; subst h2; subst h3
    exact Or.inl ⟨v, (T.setVm vm₁).calling g' mk (Value.ref b :: As).toArray, t, U', L, hT, X', hL, e1, e2, hq, st⟩
  · dsimp only [Pt.U, Pt.locs, Pt.cells, Pt.slots] at X' e1 e2 h1 h2 h3 st hcl
    subst h1; subst h2; subst h3
    exact Or.inr ⟨q, (T.setVm vm₁).calling g' mk (Value.ref b :: As).toArray, t, U', L, E, ce, hT, X', hL, e1, e2, hq, hce, hcv, vx_cls hW₁ hcl, st⟩
end VXIB
/-! ===== END ===== -/
/-! ===== BEGIN a private constructor of a nest mate that throws ===== -/
section VXIC
variable {p : Program} {l : Launch} {e : Env} {R : Room} {s : State} {m : MethodId} {args : Array Value} {below : List Frame} {meth : Method} {c : Code} {T : State} {locs : List Loc} {cells slots : Nat}
theorem vx_callIN (X : Stand p l e R s m args below meth c T locs cells slots) (hexec : p.tables.exec = Jvm.exec) {own : String} {index : Nat} {host : String} {y : MethodName} {bytes : ByteArray} {maxL : Nat}
    (hown : s.vm.findClass own = some m.cls) (hy1 : y.name = "<init>") (hlink : (Cond.methodLinkNest own index y host).before args s = true) (hinst : (Cond.instanceMethod y).before args s = true)
    (hcode : (Cond.code y bytes maxL none).before args s = true) (hy : y.cls ≠ "java/lang/invoke/MethodHandle" ∧ y.cls ≠ "java/lang/invoke/VarHandle")
    {W9 : Nat} {Pre : Pt → Array Value → Prop} {Post : Pt → Array Value → Option Value → Pt → Prop} {PostX : Pt → Array Value → Addr → Pt → Prop} (hK : vx_Back l R p e below s args y 3 W9 Pre Post PostX)
    {g : JFrame} (hg : g.method = m) (hsize : g.locals.size = c.maxLocals) {a : Addr} {argsL rest : List Value} (hlen : ∀ sig, parseMethodDescriptor y.desc = some sig → argsL.length = sig.parameters.length)
    (hstack : g.stack = argsL.reverse ++ .ref a :: rest) (hW : 2 * g.monitorRoom + (rest.map fun v => v.category).sum ≤ W9) (hdg : decode c.code g.pc = .ok (.invokespecial index, 3))
    (hpre : ∀ vm₁, s.WarmedH vm₁ → Pre ⟨T.setVm vm₁, locs, cells, slots⟩ (Value.ref a :: argsL).toArray) :
    (∃ (v : Option Value) (vm₁ : Vm) (B : Pt), s.WarmedH vm₁ ∧ Stand p l e R s m args below meth c B.U B.locs B.cells B.slots ∧ Post ⟨T.setVm vm₁, locs, cells, slots⟩ (Value.ref a :: argsL).toArray v B ∧
      ∀ target, Steps p.tables e below (B.U.setTop { g with pc := g.pc + 3, stack := v.toList ++ rest }) target → Steps p.tables e below (T.setTop g) target) ∨
    (∃ (q : Addr) (vm₁ : Vm) (B : Pt), s.WarmedH vm₁ ∧ Stand p l e R s m args below meth c B.U B.locs B.cells B.slots ∧ PostX ⟨T.setVm vm₁, locs, cells, slots⟩ (Value.ref a :: argsL).toArray q B ∧
      Steps p.tables e below (T.setTop g) ((B.U.setTop { g with stack := rest }).pushFrame (.throwing q))) := by
  subst hg
  have hpl : e.platform.magicAccessors = ({} : Platform).magicAccessors := by rw [X.admits.platform]
  obtain ⟨mk, methM, cM, kP, vm₁, hnamed, hmethM, hcodeM, -, hlocalsM, -, hkP, -, hW₁, hstep₁⟩ := Steps.initColdArgsNest (e := e) X.here hexec X.warmed hpl hown hy1 hy hlink hinst hcode (f := g) rfl hlen hstack hdg
  have X₁ := X.noted hW₁
  rcases hK g.method meth c ⟨T.setVm vm₁, locs, cells, slots⟩ { g with stack := rest } (.invokespecial index) mk (Value.ref a :: argsL).toArray X₁ rfl hsize hdg hW (X₁.named hnamed) (hpre vm₁ X₁.warmed) with ⟨v, B, X', hpost, hsteps⟩ | ⟨q, B, X', hpost, hsteps⟩
  · exact Or.inl ⟨v, vm₁, B, X₁.warmed, X', hpost, fun target h => hstep₁ _ fun acts => by rw [doInvoke_state]; exact hsteps.trans h⟩
  · exact Or.inr ⟨q, vm₁, B, X₁.warmed, X', hpost, hstep₁ _ fun acts => by rw [doInvoke_state]; exact hsteps⟩
end VXIC
section VXID
variable {p : Program} {l : Launch} {e : Env} {R : Room} {s : State} {m : MethodId} {args : Array Value} {below : List Frame} {meth : Method} {c : Code} {H : Heap} {locs : List Loc} {cells slots : Nat}
theorem vx_runIN {y : MethodName} {bytes cc : ByteArray} {maxL nL mc ms n index : Nat} {ws : List Cond} {rm : Room} {Pc : Array Value → State → Prop} {Qc : Array Value → State → Outcome → State → Prop} {XC : String → State → State → Prop} {free : Addr → Prop} {Ts : List Cond} {own host : String} {b : Addr} {As rest : List Value} {g : JFrame}
    (S : CallFix p m c cc nL s args Ts own) (hM : vx_Met l y ws rm Pc Qc XC mc ms free) (cw : va_CN R s args own index y host bytes maxL none ws rm mc ms n ∧ y.name = "<init>" ∧ (Cond.instanceMethod y).before args s = true) (hp : PreS s H Pc (.ref b :: As))
    (hg : g.method = m) (hn : As.length = n) (hsize : g.locals.size = nL) (hstack : g.stack = As.reverse ++ .ref b :: rest) (hW : 2 * g.monitorRoom + (rest.map fun v => v.category).sum ≤ 8) (hdg : decode cc g.pc = .ok (.invokespecial index, 3)) (hf : cells + mc ≤ R.cells ∧ slots + ms ≤ R.slots) :
    vx_Run p l e R s m args below meth c H locs cells slots mc ms g rest (Qc (Value.ref b :: As).toArray) XC free := by
  obtain ⟨⟨⟨hrc, hrs, hfr, hlo, hws, hcw⟩, hcode, hini, hy, hlen, hl⟩, hx1, hx2⟩ := cw
  have hK : vx_Back l R p e below s args y 3 8 (PreOf R mc ms Pc) (PostOf Qc mc ms free) (vx_Post XC mc ms free) := vx_back (bytes := bytes) (maxL := maxL) (ret := none) hM hp.1 hrc hrs hfr hlo hws hcw (fun a' U hW => word_at hW (Or.inl (by first | rfl | simp [Cond.onTables, Cond.keeps, Cond.steady])) hini)
  obtain ⟨hx, hb, hml, ho, -⟩ := S
  have hPc := hp.2
  intro T hT X
  rcases vx_callIN X hx (bytes := bytes) (maxL := maxL) ho hx1 hl hx2 hcode hy hK hg (hsize.trans hml.symm) (a := b) (argsL := As) (rest := rest) (fun sig h => hn.trans (hlen sig h)) hstack hW (by rw [hb]; exact hdg)
    (fun vm₁ hW₁ => ⟨hf.1, hf.2, hPc (T.setVm vm₁) hT hW₁⟩) with ⟨v, vm₁, ⟨U', l2, c2, s2⟩, hW₁, X', ⟨g', mk, t, L, e1, e2, hq, h1, hL, h2, h3⟩, st⟩ | ⟨q, vm₁, ⟨U', l2, c2, s2⟩, hW₁, X', ⟨g', mk, t, L, E, ce, e1, e2, hq, hce, hcv, hcl, h1, hL, h2, h3⟩, st⟩
  · dsimp only [Pt.U, Pt.locs, Pt.cells, Pt.slots] at X' e1 e2 h1 h2 h3 st
    subst h1; subst h2; subst h3
    exact Or.inl ⟨v, (T.setVm vm₁).calling g' mk (Value.ref b :: As).toArray, t, U', L, hT, X', hL, e1, e2, hq, st⟩
  · dsimp only [Pt.U, Pt.locs, Pt.cells, Pt.slots] at X' e1 e2 h1 h2 h3 st hcl
    subst h1; subst h2; subst h3
    exact Or.inr ⟨q, (T.setVm vm₁).calling g' mk (Value.ref b :: As).toArray, t, U', L, E, ce, hT, X', hL, e1, e2, hq, hce, hcv, vx_cls hW₁ hcl, st⟩
end VXID
/-! ===== END ===== -/
end
section
def RX0 : String := "RandomWalks$Costs"
def TX0 : u_T := fun k => match k with
  | 0 => ("RandomWalks$Costs", "stack", "[I", true)
  | _ => ("RandomWalks$Costs", "table", "[I", true)
def tyX0 : Nat → FieldType := fun k => match k with
  | 0 => .array .int
  | _ => .array .int
abbrev wsX00 : List Cond := u_ws RX0 TX0 2
theorem nmX0 : ∀ a, a < 2 → ∀ b, b < 2 → a ≠ b → (TX0 a).2.1 ≠ (TX0 b).2.1 := by decide +kernel
theorem tyX0_ok : ∀ k, k < 2 → parseFieldDescriptor (TX0 k).2.2.1 = some (tyX0 k) := by decide +kernel
abbrev cX0_init : ByteArray := prog_2_method_1_code
def yX0_init : MethodName := ⟨RX0, "<init>", "()V"⟩
abbrev cX0_costOfStep : ByteArray := prog_2_method_2_code
def yX0_costOfStep : MethodName := ⟨RX0, "costOfStep", "(LRandomWalks$Graph;II)I"⟩
abbrev cX0_fillTable : ByteArray := prog_2_method_3_code
def yX0_fillTable : MethodName := ⟨RX0, "fillTable", "(LRandomWalks$Graph;)V"⟩
abbrev cX0_tabled : ByteArray := prog_2_method_4_code
def yX0_tabled : MethodName := ⟨RX0, "tabled", "(II)I"⟩
abbrev cX0_evaluate : ByteArray := prog_2_method_5_code
def yX0_evaluate : MethodName := ⟨RX0, "evaluate", "([IIII)I"⟩
abbrev cX0_operand : ByteArray := prog_2_method_6_code
def yX0_operand : MethodName := ⟨RX0, "operand", "(IIII)I"⟩
abbrev cX0_operate : ByteArray := prog_2_method_7_code
def yX0_operate : MethodName := ⟨RX0, "operate", "(IJJ)I"⟩
def RX1 : String := "RandomWalks$Equations"
def TX1 : u_T := fun k => match k with
  | 0 => ("RandomWalks$Equations", "cells", "[J", true)
  | 1 => ("RandomWalks$Equations", "unknown", "[I", true)
  | 2 => ("RandomWalks$Equations", "noGains", "[J", true)
  | _ => ("RandomWalks$Equations", "count", "I", false)
def tyX1 : Nat → FieldType := fun k => match k with
  | 0 => .array .long
  | 1 => .array .int
  | 2 => .array .long
  | _ => .int
abbrev wsX10 : List Cond := u_ws RX1 TX1 4
theorem nmX1 : ∀ a, a < 4 → ∀ b, b < 4 → a ≠ b → (TX1 a).2.1 ≠ (TX1 b).2.1 := by decide +kernel
theorem tyX1_ok : ∀ k, k < 4 → parseFieldDescriptor (TX1 k).2.2.1 = some (tyX1 k) := by decide +kernel
abbrev cX1_init : ByteArray := prog_3_method_1_code
def yX1_init : MethodName := ⟨RX1, "<init>", "()V"⟩
abbrev cX1_meanUntil : ByteArray := prog_3_method_2_code
def yX1_meanUntil : MethodName := ⟨RX1, "meanUntil", "(LRandomWalks$Graph;II[JLRandomWalks$Fraction;)V"⟩
abbrev cX1_solve : ByteArray := prog_3_method_3_code
def yX1_solve : MethodName := ⟨RX1, "solve", "(LRandomWalks$Graph;II[JLRandomWalks$Fraction;)V"⟩
abbrev cX1_treesOf : ByteArray := prog_3_method_4_code
def yX1_treesOf : MethodName := ⟨RX1, "treesOf", "(LRandomWalks$Graph;)J"⟩
abbrev cX1_build : ByteArray := prog_3_method_5_code
def yX1_build : MethodName := ⟨RX1, "build", "(LRandomWalks$Graph;II[J)V"⟩
abbrev cX1_eliminate : ByteArray := prog_3_method_6_code
def yX1_eliminate : MethodName := ⟨RX1, "eliminate", "()Z"⟩
abbrev cX1_cell : ByteArray := prog_3_method_7_code
def yX1_cell : MethodName := ⟨RX1, "cell", "(II)J"⟩
abbrev cX1_putCell : ByteArray := prog_3_method_8_code
def yX1_putCell : MethodName := ⟨RX1, "putCell", "(IIJ)V"⟩
def RX2 : String := "RandomWalks$Fraction"
def TX2 : u_T := fun k => match k with
  | 0 => ("RandomWalks$Fraction", "above", "J", false)
  | _ => ("RandomWalks$Fraction", "below", "J", false)
def tyX2 : Nat → FieldType := fun k => match k with
  | 0 => .long
  | _ => .long
abbrev wsX20 : List Cond := u_ws RX2 TX2 2
theorem nmX2 : ∀ a, a < 2 → ∀ b, b < 2 → a ≠ b → (TX2 a).2.1 ≠ (TX2 b).2.1 := by decide +kernel
theorem tyX2_ok : ∀ k, k < 2 → parseFieldDescriptor (TX2 k).2.2.1 = some (tyX2 k) := by decide +kernel
abbrev cX2_init : ByteArray := prog_4_method_1_code
def yX2_init : MethodName := ⟨RX2, "<init>", "()V"⟩
abbrev cX2_put : ByteArray := prog_4_method_2_code
def yX2_put : MethodName := ⟨RX2, "put", "(JJ)V"⟩
abbrev cX2_add : ByteArray := prog_4_method_3_code
def yX2_add : MethodName := ⟨RX2, "add", "(LRandomWalks$Fraction;)V"⟩
abbrev cX2_divideBy : ByteArray := prog_4_method_4_code
def yX2_divideBy : MethodName := ⟨RX2, "divideBy", "(J)V"⟩
abbrev cX2_part : ByteArray := prog_4_method_5_code
def yX2_part : MethodName := ⟨RX2, "part", "(Z)J"⟩
abbrev cX2_commonDivisor : ByteArray := prog_4_method_6_code
def yX2_commonDivisor : MethodName := ⟨RX2, "commonDivisor", "(JJ)J"⟩
def RX3 : String := "RandomWalks$Graph"
def TX3 : u_T := fun k => match k with
  | 0 => ("RandomWalks$Graph", "vertices", "I", false)
  | 1 => ("RandomWalks$Graph", "edges", "I", false)
  | 2 => ("RandomWalks$Graph", "absorbing", "I", false)
  | 3 => ("RandomWalks$Graph", "blocks", "I", false)
  | 4 => ("RandomWalks$Graph", "low", "[I", true)
  | 5 => ("RandomWalks$Graph", "high", "[I", true)
  | 6 => ("RandomWalks$Graph", "weights", "[I", true)
  | 7 => ("RandomWalks$Graph", "block", "[I", true)
  | 8 => ("RandomWalks$Graph", "oldBlock", "[I", true)
  | _ => ("RandomWalks$Graph", "formula", "[I", false)
def tyX3 : Nat → FieldType := fun k => match k with
  | 0 => .int
  | 1 => .int
  | 2 => .int
  | 3 => .int
  | 4 => .array .int
  | 5 => .array .int
  | 6 => .array .int
  | 7 => .array .int
  | 8 => .array .int
  | _ => .array .int
abbrev wsX30 : List Cond := u_ws RX3 TX3 10
theorem nmX3 : ∀ a, a < 10 → ∀ b, b < 10 → a ≠ b → (TX3 a).2.1 ≠ (TX3 b).2.1 := by decide +kernel
theorem tyX3_ok : ∀ k, k < 10 → parseFieldDescriptor (TX3 k).2.2.1 = some (tyX3 k) := by decide +kernel
abbrev cX3_init : ByteArray := prog_5_method_1_code
def yX3_init : MethodName := ⟨RX3, "<init>", "()V"⟩
abbrev cX3_copyFrom : ByteArray := prog_5_method_2_code
def yX3_copyFrom : MethodName := ⟨RX3, "copyFrom", "(LRandomWalks$Graph;)V"⟩
abbrev cX3_clear : ByteArray := prog_5_method_3_code
def yX3_clear : MethodName := ⟨RX3, "clear", "(I)V"⟩
abbrev cX3_weightBetween : ByteArray := prog_5_method_4_code
def yX3_weightBetween : MethodName := ⟨RX3, "weightBetween", "(II)I"⟩
abbrev cX3_putWeight : ByteArray := prog_5_method_5_code
def yX3_putWeight : MethodName := ⟨RX3, "putWeight", "(III)V"⟩
abbrev cX3_putEdge : ByteArray := prog_5_method_6_code
def yX3_putEdge : MethodName := ⟨RX3, "putEdge", "(III)V"⟩
abbrev cX3_dropEdge : ByteArray := prog_5_method_7_code
def yX3_dropEdge : MethodName := ⟨RX3, "dropEdge", "(I)V"⟩
abbrev cX3_isAbsorbing : ByteArray := prog_5_method_8_code
def yX3_isAbsorbing : MethodName := ⟨RX3, "isAbsorbing", "(I)Z"⟩
abbrev cX3_sumOfWeights : ByteArray := prog_5_method_9_code
def yX3_sumOfWeights : MethodName := ⟨RX3, "sumOfWeights", "(I)I"⟩
abbrev cX3_component : ByteArray := prog_5_method_10_code
def yX3_component : MethodName := ⟨RX3, "component", "(I)I"⟩
abbrev cX3_hasWay : ByteArray := prog_5_method_11_code
def yX3_hasWay : MethodName := ⟨RX3, "hasWay", "(II)Z"⟩
abbrev cX3_stepChance : ByteArray := prog_5_method_12_code
def yX3_stepChance : MethodName := ⟨RX3, "stepChance", "(IILRandomWalks$Fraction;)V"⟩
abbrev cX3_uniteBlocks : ByteArray := prog_5_method_13_code
def yX3_uniteBlocks : MethodName := ⟨RX3, "uniteBlocks", "(II)V"⟩
abbrev cX3_isolateInBlock : ByteArray := prog_5_method_14_code
def yX3_isolateInBlock : MethodName := ⟨RX3, "isolateInBlock", "(I)V"⟩
abbrev cX3_numberBlocks : ByteArray := prog_5_method_15_code
def yX3_numberBlocks : MethodName := ⟨RX3, "numberBlocks", "()V"⟩
abbrev cX3_neighbours : ByteArray := prog_5_method_16_code
def yX3_neighbours : MethodName := ⟨RX3, "neighbours", "(I)I"⟩
def RX4 : String := "RandomWalks$History"
def TX4 : u_T := fun k => match k with
  | 0 => ("RandomWalks$History", "kept", "[LRandomWalks$Graph;", true)
  | 1 => ("RandomWalks$History", "next", "I", false)
  | _ => ("RandomWalks$History", "count", "I", false)
def tyX4 : Nat → FieldType := fun k => match k with
  | 0 => .array (.object "RandomWalks$Graph")
  | 1 => .int
  | _ => .int
abbrev wsX40 : List Cond := u_ws RX4 TX4 3
theorem nmX4 : ∀ a, a < 3 → ∀ b, b < 3 → a ≠ b → (TX4 a).2.1 ≠ (TX4 b).2.1 := by decide +kernel
theorem tyX4_ok : ∀ k, k < 3 → parseFieldDescriptor (TX4 k).2.2.1 = some (tyX4 k) := by decide +kernel
abbrev cX4_init : ByteArray := prog_6_method_1_code
def yX4_init : MethodName := ⟨RX4, "<init>", "()V"⟩
abbrev cX4_keep : ByteArray := prog_6_method_2_code
def yX4_keep : MethodName := ⟨RX4, "keep", "(LRandomWalks$Graph;)V"⟩
abbrev cX4_restore : ByteArray := prog_6_method_3_code
def yX4_restore : MethodName := ⟨RX4, "restore", "(LRandomWalks$Graph;)I"⟩
def RX5 : String := "RandomWalks$Partition"
def TX5 : u_T := fun k => match k with
  | 0 => ("RandomWalks$Partition", "lump", "LRandomWalks$Graph;", true)
  | 1 => ("RandomWalks$Partition", "lumpGains", "[J", true)
  | _ => ("RandomWalks$Partition", "finer", "[I", true)
def tyX5 : Nat → FieldType := fun k => match k with
  | 0 => .object "RandomWalks$Graph"
  | 1 => .array .long
  | _ => .array .int
abbrev wsX50 : List Cond := u_ws RX5 TX5 3
theorem nmX5 : ∀ a, a < 3 → ∀ b, b < 3 → a ≠ b → (TX5 a).2.1 ≠ (TX5 b).2.1 := by decide +kernel
theorem tyX5_ok : ∀ k, k < 3 → parseFieldDescriptor (TX5 k).2.2.1 = some (tyX5 k) := by decide +kernel
abbrev cX5_init : ByteArray := prog_7_method_1_code
def yX5_init : MethodName := ⟨RX5, "<init>", "()V"⟩
abbrev cX5_firstParted : ByteArray := prog_7_method_2_code
def yX5_firstParted : MethodName := ⟨RX5, "firstParted", "(LRandomWalks$Graph;)I"⟩
abbrev cX5_refineBlocks : ByteArray := prog_7_method_3_code
def yX5_refineBlocks : MethodName := ⟨RX5, "refineBlocks", "(LRandomWalks$Graph;)V"⟩
abbrev cX5_lumpBlocks : ByteArray := prog_7_method_4_code
def yX5_lumpBlocks : MethodName := ⟨RX5, "lumpBlocks", "(LRandomWalks$Graph;)V"⟩
abbrev cX5_blockChance : ByteArray := prog_7_method_5_code
def yX5_blockChance : MethodName := ⟨RX5, "blockChance", "(IILRandomWalks$Fraction;)V"⟩
abbrev cX5_firstDifference : ByteArray := prog_7_method_6_code
def yX5_firstDifference : MethodName := ⟨RX5, "firstDifference", "(LRandomWalks$Graph;II)I"⟩
abbrev cX5_weightTo : ByteArray := prog_7_method_7_code
def yX5_weightTo : MethodName := ⟨RX5, "weightTo", "(LRandomWalks$Graph;II)I"⟩
abbrev cX5_divideAll : ByteArray := prog_7_method_8_code
def yX5_divideAll : MethodName := ⟨RX5, "divideAll", "(LRandomWalks$Graph;)V"⟩
abbrev cX5_staysWith : ByteArray := prog_7_method_9_code
def yX5_staysWith : MethodName := ⟨RX5, "staysWith", "(LRandomWalks$Graph;II)Z"⟩
def RX6 : String := "RandomWalks$Reader"
def TX6 : u_T := fun k => match k with
  | 0 => ("RandomWalks$Reader", "tokens", "LRandomWalks$Tokens;", true)
  | 1 => ("RandomWalks$Reader", "draft", "LRandomWalks$Graph;", true)
  | 2 => ("RandomWalks$Reader", "error", "I", false)
  | 3 => ("RandomWalks$Reader", "errorAt", "I", false)
  | 4 => ("RandomWalks$Reader", "next", "I", false)
  | 5 => ("RandomWalks$Reader", "kind", "I", false)
  | 6 => ("RandomWalks$Reader", "start", "I", false)
  | 7 => ("RandomWalks$Reader", "value", "I", false)
  | 8 => ("RandomWalks$Reader", "hasCost", "Z", false)
  | 9 => ("RandomWalks$Reader", "code", "[I", true)
  | 10 => ("RandomWalks$Reader", "codeLength", "I", false)
  | 11 => ("RandomWalks$Reader", "waiting", "[I", true)
  | _ => ("RandomWalks$Reader", "waitingCount", "I", false)
def tyX6 : Nat → FieldType := fun k => match k with
  | 0 => .object "RandomWalks$Tokens"
  | 1 => .object "RandomWalks$Graph"
  | 2 => .int
  | 3 => .int
  | 4 => .int
  | 5 => .int
  | 6 => .int
  | 7 => .int
  | 8 => .boolean
  | 9 => .array .int
  | 10 => .int
  | 11 => .array .int
  | _ => .int
abbrev wsX60 : List Cond := u_ws RX6 TX6 13
theorem nmX6 : ∀ a, a < 13 → ∀ b, b < 13 → a ≠ b → (TX6 a).2.1 ≠ (TX6 b).2.1 := by decide +kernel
theorem tyX6_ok : ∀ k, k < 13 → parseFieldDescriptor (TX6 k).2.2.1 = some (tyX6 k) := by decide +kernel
abbrev cX6_init : ByteArray := prog_8_method_1_code
def yX6_init : MethodName := ⟨RX6, "<init>", "()V"⟩
abbrev cX6_readSetup : ByteArray := prog_8_method_2_code
def yX6_readSetup : MethodName := ⟨RX6, "readSetup", "()Z"⟩
abbrev cX6_readStatement : ByteArray := prog_8_method_3_code
def yX6_readStatement : MethodName := ⟨RX6, "readStatement", "()Z"⟩
abbrev cX6_readEdge : ByteArray := prog_8_method_4_code
def yX6_readEdge : MethodName := ⟨RX6, "readEdge", "()Z"⟩
abbrev cX6_readAbsorb : ByteArray := prog_8_method_5_code
def yX6_readAbsorb : MethodName := ⟨RX6, "readAbsorb", "()Z"⟩
abbrev cX6_readJoin : ByteArray := prog_8_method_6_code
def yX6_readJoin : MethodName := ⟨RX6, "readJoin", "()Z"⟩
abbrev cX6_readCost : ByteArray := prog_8_method_7_code
def yX6_readCost : MethodName := ⟨RX6, "readCost", "()Z"⟩
abbrev cX6_readFactor : ByteArray := prog_8_method_8_code
def yX6_readFactor : MethodName := ⟨RX6, "readFactor", "()Z"⟩
abbrev cX6_emit : ByteArray := prog_8_method_9_code
def yX6_emit : MethodName := ⟨RX6, "emit", "(I)V"⟩
abbrev cX6_postpone : ByteArray := prog_8_method_10_code
def yX6_postpone : MethodName := ⟨RX6, "postpone", "(I)V"⟩
abbrev cX6_release : ByteArray := prog_8_method_11_code
def yX6_release : MethodName := ⟨RX6, "release", "(I)V"⟩
abbrev cX6_strength : ByteArray := prog_8_method_12_code
def yX6_strength : MethodName := ⟨RX6, "strength", "(I)I"⟩
abbrev cX6_operation : ByteArray := prog_8_method_13_code
def yX6_operation : MethodName := ⟨RX6, "operation", "(I)I"⟩
abbrev cX6_readVertex : ByteArray := prog_8_method_14_code
def yX6_readVertex : MethodName := ⟨RX6, "readVertex", "()Z"⟩
abbrev cX6_readNumber : ByteArray := prog_8_method_15_code
def yX6_readNumber : MethodName := ⟨RX6, "readNumber", "(II)Z"⟩
abbrev cX6_readSemicolon : ByteArray := prog_8_method_16_code
def yX6_readSemicolon : MethodName := ⟨RX6, "readSemicolon", "()Z"⟩
abbrev cX6_takeToken : ByteArray := prog_8_method_17_code
def yX6_takeToken : MethodName := ⟨RX6, "takeToken", "()V"⟩
abbrev cX6_fail : ByteArray := prog_8_method_18_code
def yX6_fail : MethodName := ⟨RX6, "fail", "(I)Z"⟩
def RX7 : String := "RandomWalks$Spread"
def TX7 : u_T := fun k => match k with
  | 0 => ("RandomWalks$Spread", "chances", "[F", true)
  | 1 => ("RandomWalks$Spread", "now", "[F", true)
  | 2 => ("RandomWalks$Spread", "next", "[F", true)
  | _ => ("RandomWalks$Spread", "chance", "LRandomWalks$Fraction;", true)
def tyX7 : Nat → FieldType := fun k => match k with
  | 0 => .array .float
  | 1 => .array .float
  | 2 => .array .float
  | _ => .object "RandomWalks$Fraction"
abbrev wsX70 : List Cond := u_ws RX7 TX7 4
theorem nmX7 : ∀ a, a < 4 → ∀ b, b < 4 → a ≠ b → (TX7 a).2.1 ≠ (TX7 b).2.1 := by decide +kernel
theorem tyX7_ok : ∀ k, k < 4 → parseFieldDescriptor (TX7 k).2.2.1 = some (tyX7 k) := by decide +kernel
abbrev cX7_init : ByteArray := prog_9_method_1_code
def yX7_init : MethodName := ⟨RX7, "<init>", "()V"⟩
abbrev cX7_chanceAfter : ByteArray := prog_9_method_2_code
def yX7_chanceAfter : MethodName := ⟨RX7, "chanceAfter", "(LRandomWalks$Graph;III)F"⟩
abbrev cX7_fillChances : ByteArray := prog_9_method_3_code
def yX7_fillChances : MethodName := ⟨RX7, "fillChances", "(LRandomWalks$Graph;)V"⟩
abbrev cX7_chanceAt : ByteArray := prog_9_method_4_code
def yX7_chanceAt : MethodName := ⟨RX7, "chanceAt", "(LRandomWalks$Graph;I)F"⟩
def RX8 : String := "RandomWalks$Stroll"
def TX8 : u_T := fun k => match k with
  | 0 => ("RandomWalks$Stroll", "drawing", "J", false)
  | 1 => ("RandomWalks$Stroll", "place", "I", false)
  | 2 => ("RandomWalks$Stroll", "seen", "I", false)
  | 3 => ("RandomWalks$Stroll", "cost", "I", false)
  | _ => ("RandomWalks$Stroll", "stepsUntilAbsorbing", "I", false)
def tyX8 : Nat → FieldType := fun k => match k with
  | 0 => .long
  | 1 => .int
  | 2 => .int
  | 3 => .int
  | _ => .int
abbrev wsX80 : List Cond := u_ws RX8 TX8 5
theorem nmX8 : ∀ a, a < 5 → ∀ b, b < 5 → a ≠ b → (TX8 a).2.1 ≠ (TX8 b).2.1 := by decide +kernel
theorem tyX8_ok : ∀ k, k < 5 → parseFieldDescriptor (TX8 k).2.2.1 = some (tyX8 k) := by decide +kernel
abbrev cX8_init : ByteArray := prog_10_method_1_code
def yX8_init : MethodName := ⟨RX8, "<init>", "()V"⟩
abbrev cX8_go : ByteArray := prog_10_method_2_code
def yX8_go : MethodName := ⟨RX8, "go", "(LRandomWalks$Graph;LRandomWalks$Costs;III)V"⟩
abbrev cX8_told : ByteArray := prog_10_method_3_code
def yX8_told : MethodName := ⟨RX8, "told", "(I)I"⟩
abbrev cX8_drawStep : ByteArray := prog_10_method_4_code
def yX8_drawStep : MethodName := ⟨RX8, "drawStep", "(LRandomWalks$Graph;)I"⟩
def RX9 : String := "RandomWalks$Tokens"
def TX9 : u_T := fun k => match k with
  | 0 => ("RandomWalks$Tokens", "text", "[B", true)
  | 1 => ("RandomWalks$Tokens", "held", "I", false)
  | 2 => ("RandomWalks$Tokens", "kinds", "[I", true)
  | 3 => ("RandomWalks$Tokens", "starts", "[I", true)
  | 4 => ("RandomWalks$Tokens", "values", "[I", true)
  | _ => ("RandomWalks$Tokens", "count", "I", false)
def tyX9 : Nat → FieldType := fun k => match k with
  | 0 => .array .byte
  | 1 => .int
  | 2 => .array .int
  | 3 => .array .int
  | 4 => .array .int
  | _ => .int
abbrev wsX90 : List Cond := u_ws RX9 TX9 6
theorem nmX9 : ∀ a, a < 6 → ∀ b, b < 6 → a ≠ b → (TX9 a).2.1 ≠ (TX9 b).2.1 := by decide +kernel
theorem tyX9_ok : ∀ k, k < 6 → parseFieldDescriptor (TX9 k).2.2.1 = some (tyX9 k) := by decide +kernel
abbrev cX9_init : ByteArray := prog_11_method_1_code
def yX9_init : MethodName := ⟨RX9, "<init>", "()V"⟩
abbrev cX9_hold : ByteArray := prog_11_method_2_code
def yX9_hold : MethodName := ⟨RX9, "hold", "(I)V"⟩
abbrev cX9_scan : ByteArray := prog_11_method_3_code
def yX9_scan : MethodName := ⟨RX9, "scan", "(I)V"⟩
abbrev cX9_scanToken : ByteArray := prog_11_method_4_code
def yX9_scanToken : MethodName := ⟨RX9, "scanToken", "(II)I"⟩
abbrev cX9_scanNumber : ByteArray := prog_11_method_5_code
def yX9_scanNumber : MethodName := ⟨RX9, "scanNumber", "(II)I"⟩
abbrev cX9_scanWord : ByteArray := prog_11_method_6_code
def yX9_scanWord : MethodName := ⟨RX9, "scanWord", "(II)I"⟩
abbrev cX9_kindOfWord : ByteArray := prog_11_method_7_code
def yX9_kindOfWord : MethodName := ⟨RX9, "kindOfWord", "(II)I"⟩
abbrev cX9_isWord : ByteArray := prog_11_method_8_code
def yX9_isWord : MethodName := ⟨RX9, "isWord", "(Ljava/lang/String;II)Z"⟩
abbrev cX9_put : ByteArray := prog_11_method_9_code
def yX9_put : MethodName := ⟨RX9, "put", "(III)V"⟩
abbrev cX9_isDigit : ByteArray := prog_11_method_10_code
def yX9_isDigit : MethodName := ⟨RX9, "isDigit", "(I)Z"⟩
abbrev cX9_isLetter : ByteArray := prog_11_method_11_code
def yX9_isLetter : MethodName := ⟨RX9, "isLetter", "(I)Z"⟩
def RX10 : String := "RandomWalks"
def TX10 : u_T := fun k => match k with
  | 0 => ("RandomWalks", "errorAt", "I", false)
  | 1 => ("RandomWalks", "graph", "LRandomWalks$Graph;", true)
  | 2 => ("RandomWalks", "history", "LRandomWalks$History;", true)
  | 3 => ("RandomWalks", "reader", "LRandomWalks$Reader;", true)
  | 4 => ("RandomWalks", "costs", "LRandomWalks$Costs;", true)
  | 5 => ("RandomWalks", "partition", "LRandomWalks$Partition;", true)
  | 6 => ("RandomWalks", "equations", "LRandomWalks$Equations;", true)
  | 7 => ("RandomWalks", "answer", "LRandomWalks$Fraction;", true)
  | 8 => ("RandomWalks", "wayBack", "LRandomWalks$Fraction;", true)
  | 9 => ("RandomWalks", "gains", "[J", true)
  | 10 => ("RandomWalks", "stroll", "LRandomWalks$Stroll;", true)
  | _ => ("RandomWalks", "spread", "LRandomWalks$Spread;", true)
def tyX10 : Nat → FieldType := fun k => match k with
  | 0 => .int
  | 1 => .object "RandomWalks$Graph"
  | 2 => .object "RandomWalks$History"
  | 3 => .object "RandomWalks$Reader"
  | 4 => .object "RandomWalks$Costs"
  | 5 => .object "RandomWalks$Partition"
  | 6 => .object "RandomWalks$Equations"
  | 7 => .object "RandomWalks$Fraction"
  | 8 => .object "RandomWalks$Fraction"
  | 9 => .array .long
  | 10 => .object "RandomWalks$Stroll"
  | _ => .object "RandomWalks$Spread"
abbrev wsX100 : List Cond := u_ws RX10 TX10 12
theorem nmX10 : ∀ a, a < 12 → ∀ b, b < 12 → a ≠ b → (TX10 a).2.1 ≠ (TX10 b).2.1 := by decide +kernel
theorem tyX10_ok : ∀ k, k < 12 → parseFieldDescriptor (TX10 k).2.2.1 = some (tyX10 k) := by decide +kernel
abbrev cX10_init : ByteArray := prog_1_method_1_code
def yX10_init : MethodName := ⟨RX10, "<init>", "()V"⟩
abbrev cX10_append : ByteArray := prog_1_method_2_code
def yX10_append : MethodName := ⟨RX10, "append", "(IIIII)I"⟩
abbrev cX10_load : ByteArray := prog_1_method_3_code
def yX10_load : MethodName := ⟨RX10, "load", "(I)I"⟩
abbrev cX10_errorOffset : ByteArray := prog_1_method_4_code
def yX10_errorOffset : MethodName := ⟨RX10, "errorOffset", "()I"⟩
abbrev cX10_size : ByteArray := prog_1_method_5_code
def yX10_size : MethodName := ⟨RX10, "size", "()I"⟩
abbrev cX10_edgeCount : ByteArray := prog_1_method_6_code
def yX10_edgeCount : MethodName := ⟨RX10, "edgeCount", "()I"⟩
abbrev cX10_edge : ByteArray := prog_1_method_7_code
def yX10_edge : MethodName := ⟨RX10, "edge", "(II)I"⟩
abbrev cX10_degree : ByteArray := prog_1_method_8_code
def yX10_degree : MethodName := ⟨RX10, "degree", "(I)I"⟩
abbrev cX10_reachable : ByteArray := prog_1_method_9_code
def yX10_reachable : MethodName := ⟨RX10, "reachable", "(I)I"⟩
abbrev cX10_transition : ByteArray := prog_1_method_10_code
def yX10_transition : MethodName := ⟨RX10, "transition", "(IIZ)I"⟩
abbrev cX10_hittingTime : ByteArray := prog_1_method_11_code
def yX10_hittingTime : MethodName := ⟨RX10, "hittingTime", "(IIZ)J"⟩
abbrev cX10_hittingCost : ByteArray := prog_1_method_12_code
def yX10_hittingCost : MethodName := ⟨RX10, "hittingCost", "(IIZ)J"⟩
abbrev cX10_commuteTime : ByteArray := prog_1_method_13_code
def yX10_commuteTime : MethodName := ⟨RX10, "commuteTime", "(IIZ)J"⟩
abbrev cX10_resistance : ByteArray := prog_1_method_14_code
def yX10_resistance : MethodName := ⟨RX10, "resistance", "(IIZ)J"⟩
abbrev cX10_trees : ByteArray := prog_1_method_15_code
def yX10_trees : MethodName := ⟨RX10, "trees", "()J"⟩
abbrev cX10_absorbing : ByteArray := prog_1_method_16_code
def yX10_absorbing : MethodName := ⟨RX10, "absorbing", "()I"⟩
abbrev cX10_absorption : ByteArray := prog_1_method_17_code
def yX10_absorption : MethodName := ⟨RX10, "absorption", "(IIZ)J"⟩
abbrev cX10_absorptionTime : ByteArray := prog_1_method_18_code
def yX10_absorptionTime : MethodName := ⟨RX10, "absorptionTime", "(IZ)J"⟩
abbrev cX10_blockOf : ByteArray := prog_1_method_19_code
def yX10_blockOf : MethodName := ⟨RX10, "blockOf", "(I)I"⟩
abbrev cX10_blockCount : ByteArray := prog_1_method_20_code
def yX10_blockCount : MethodName := ⟨RX10, "blockCount", "()I"⟩
abbrev cX10_isLumpable : ByteArray := prog_1_method_21_code
def yX10_isLumpable : MethodName := ⟨RX10, "isLumpable", "()Z"⟩
abbrev cX10_parted : ByteArray := prog_1_method_22_code
def yX10_parted : MethodName := ⟨RX10, "parted", "()I"⟩
abbrev cX10_lumped : ByteArray := prog_1_method_23_code
def yX10_lumped : MethodName := ⟨RX10, "lumped", "(IIZ)I"⟩
abbrev cX10_lumpedTime : ByteArray := prog_1_method_24_code
def yX10_lumpedTime : MethodName := ⟨RX10, "lumpedTime", "(IIZ)J"⟩
abbrev cX10_after : ByteArray := prog_1_method_25_code
def yX10_after : MethodName := ⟨RX10, "after", "(III)F"⟩
abbrev cX10_walk : ByteArray := prog_1_method_26_code
def yX10_walk : MethodName := ⟨RX10, "walk", "(IIII)I"⟩
abbrev cX10_setWeight : ByteArray := prog_1_method_27_code
def yX10_setWeight : MethodName := ⟨RX10, "setWeight", "(II)I"⟩
abbrev cX10_addEdge : ByteArray := prog_1_method_28_code
def yX10_addEdge : MethodName := ⟨RX10, "addEdge", "(III)I"⟩
abbrev cX10_removeEdge : ByteArray := prog_1_method_29_code
def yX10_removeEdge : MethodName := ⟨RX10, "removeEdge", "(I)I"⟩
abbrev cX10_setAbsorbing : ByteArray := prog_1_method_30_code
def yX10_setAbsorbing : MethodName := ⟨RX10, "setAbsorbing", "(IZ)I"⟩
abbrev cX10_join : ByteArray := prog_1_method_31_code
def yX10_join : MethodName := ⟨RX10, "join", "(II)I"⟩
abbrev cX10_separate : ByteArray := prog_1_method_32_code
def yX10_separate : MethodName := ⟨RX10, "separate", "(I)I"⟩
abbrev cX10_refine : ByteArray := prog_1_method_33_code
def yX10_refine : MethodName := ⟨RX10, "refine", "()I"⟩
abbrev cX10_undo : ByteArray := prog_1_method_34_code
def yX10_undo : MethodName := ⟨RX10, "undo", "()I"⟩
abbrev cX10_checksum : ByteArray := prog_1_method_35_code
def yX10_checksum : MethodName := ⟨RX10, "checksum", "()J"⟩
abbrev cX10_requireVertex : ByteArray := prog_1_method_36_code
def yX10_requireVertex : MethodName := ⟨RX10, "requireVertex", "(I)V"⟩
abbrev cX10_requireEdge : ByteArray := prog_1_method_37_code
def yX10_requireEdge : MethodName := ⟨RX10, "requireEdge", "(I)V"⟩
abbrev cX10_requireBlock : ByteArray := prog_1_method_38_code
def yX10_requireBlock : MethodName := ⟨RX10, "requireBlock", "(I)V"⟩
abbrev cX10_requireWeight : ByteArray := prog_1_method_39_code
def yX10_requireWeight : MethodName := ⟨RX10, "requireWeight", "(I)V"⟩
abbrev cX10_requireWay : ByteArray := prog_1_method_40_code
def yX10_requireWay : MethodName := ⟨RX10, "requireWay", "(II)V"⟩
abbrev cX10_requireAbsorbingWay : ByteArray := prog_1_method_41_code
def yX10_requireAbsorbingWay : MethodName := ⟨RX10, "requireAbsorbingWay", "(I)V"⟩
abbrev cX10_requireLumpable : ByteArray := prog_1_method_42_code
def yX10_requireLumpable : MethodName := ⟨RX10, "requireLumpable", "()V"⟩
abbrev cX10_gainSteps : ByteArray := prog_1_method_43_code
def yX10_gainSteps : MethodName := ⟨RX10, "gainSteps", "()V"⟩
abbrev cX10_gainCosts : ByteArray := prog_1_method_44_code
def yX10_gainCosts : MethodName := ⟨RX10, "gainCosts", "()V"⟩
abbrev cX10_findCommuteTime : ByteArray := prog_1_method_45_code
def yX10_findCommuteTime : MethodName := ⟨RX10, "findCommuteTime", "(II)V"⟩
abbrev cX10_findAbsorption : ByteArray := prog_1_method_46_code
def yX10_findAbsorption : MethodName := ⟨RX10, "findAbsorption", "(II)V"⟩
abbrev cX10_sumOfDegrees : ByteArray := prog_1_method_47_code
def yX10_sumOfDegrees : MethodName := ⟨RX10, "sumOfDegrees", "(I)J"⟩
abbrev cX10_countTrees : ByteArray := prog_1_method_48_code
def yX10_countTrees : MethodName := ⟨RX10, "countTrees", "()J"⟩
def RX11 : String := "RandomWalksModel"
def TX11 : u_T := fun k => match k with
  | 0 => ("RandomWalksModel", "thrown", "I", false)
  | 1 => ("RandomWalksModel", "rows", "[I", true)
  | 2 => ("RandomWalksModel", "read", "[I", true)
  | 3 => ("RandomWalksModel", "now", "I", false)
  | 4 => ("RandomWalksModel", "undoable", "I", false)
  | 5 => ("RandomWalksModel", "text", "[I", true)
  | 6 => ("RandomWalksModel", "bytes", "I", false)
  | 7 => ("RandomWalksModel", "errorAt", "I", false)
  | 8 => ("RandomWalksModel", "size", "I", false)
  | 9 => ("RandomWalksModel", "next", "I", false)
  | 10 => ("RandomWalksModel", "error", "I", false)
  | 11 => ("RandomWalksModel", "place", "I", false)
  | 12 => ("RandomWalksModel", "began", "I", false)
  | 13 => ("RandomWalksModel", "nested", "I", false)
  | 14 => ("RandomWalksModel", "hasCost", "Z", false)
  | 15 => ("RandomWalksModel", "weights", "[I", true)
  | 16 => ("RandomWalksModel", "costs", "[I", true)
  | 17 => ("RandomWalksModel", "degrees", "[I", true)
  | 18 => ("RandomWalksModel", "pile", "[J", true)
  | 19 => ("RandomWalksModel", "above", "J", false)
  | 20 => ("RandomWalksModel", "below", "J", false)
  | 21 => ("RandomWalksModel", "matrix", "[J", true)
  | 22 => ("RandomWalksModel", "square", "[J", true)
  | 23 => ("RandomWalksModel", "places", "[I", true)
  | 24 => ("RandomWalksModel", "unknowns", "I", false)
  | 25 => ("RandomWalksModel", "fresh", "[I", true)
  | 26 => ("RandomWalksModel", "blocks", "I", false)
  | 27 => ("RandomWalksModel", "chances", "[F", true)
  | _ => ("RandomWalksModel", "then", "[F", true)
def tyX11 : Nat → FieldType := fun k => match k with
  | 0 => .int
  | 1 => .array .int
  | 2 => .array .int
  | 3 => .int
  | 4 => .int
  | 5 => .array .int
  | 6 => .int
  | 7 => .int
  | 8 => .int
  | 9 => .int
  | 10 => .int
  | 11 => .int
  | 12 => .int
  | 13 => .int
  | 14 => .boolean
  | 15 => .array .int
  | 16 => .array .int
  | 17 => .array .int
  | 18 => .array .long
  | 19 => .long
  | 20 => .long
  | 21 => .array .long
  | 22 => .array .long
  | 23 => .array .int
  | 24 => .int
  | 25 => .array .int
  | 26 => .int
  | 27 => .array .float
  | _ => .array .float
abbrev wsX110 : List Cond := u_ws RX11 TX11 29
theorem nmX11 : ∀ a, a < 29 → ∀ b, b < 29 → a ≠ b → (TX11 a).2.1 ≠ (TX11 b).2.1 := by decide +kernel
theorem tyX11_ok : ∀ k, k < 29 → parseFieldDescriptor (TX11 k).2.2.1 = some (tyX11 k) := by decide +kernel
abbrev cX11_init : ByteArray := prog_13_method_1_code
def yX11_init : MethodName := ⟨RX11, "<init>", "()V"⟩
abbrev cX11_thrown : ByteArray := prog_13_method_2_code
def yX11_thrown : MethodName := ⟨RX11, "thrown", "()I"⟩
abbrev cX11_isIn : ByteArray := prog_13_method_3_code
def yX11_isIn : MethodName := ⟨RX11, "isIn", "(JJJ)Z"⟩
abbrev cX11_get : ByteArray := prog_13_method_4_code
def yX11_get : MethodName := ⟨RX11, "get", "(I)I"⟩
abbrev cX11_put : ByteArray := prog_13_method_5_code
def yX11_put : MethodName := ⟨RX11, "put", "(II)V"⟩
abbrev cX11_change : ByteArray := prog_13_method_6_code
def yX11_change : MethodName := ⟨RX11, "change", "()V"⟩
abbrev cX11_right : ByteArray := prog_13_method_7_code
def yX11_right : MethodName := ⟨RX11, "right", "(ZI)Z"⟩
abbrev cX11_append : ByteArray := prog_13_method_8_code
def yX11_append : MethodName := ⟨RX11, "append", "(IIIII)I"⟩
abbrev cX11_fails : ByteArray := prog_13_method_9_code
def yX11_fails : MethodName := ⟨RX11, "fails", "(II)V"⟩
abbrev cX11_sees : ByteArray := prog_13_method_10_code
def yX11_sees : MethodName := ⟨RX11, "sees", "()I"⟩
abbrev cX11_takes : ByteArray := prog_13_method_11_code
def yX11_takes : MethodName := ⟨RX11, "takes", "(Ljava/lang/String;)Z"⟩
abbrev cX11_wants : ByteArray := prog_13_method_12_code
def yX11_wants : MethodName := ⟨RX11, "wants", "(I)V"⟩
abbrev cX11_isDigit : ByteArray := prog_13_method_13_code
def yX11_isDigit : MethodName := ⟨RX11, "isDigit", "()Z"⟩
abbrev cX11_reads : ByteArray := prog_13_method_14_code
def yX11_reads : MethodName := ⟨RX11, "reads", "(II)I"⟩
abbrev cX11_codes : ByteArray := prog_13_method_15_code
def yX11_codes : MethodName := ⟨RX11, "codes", "(II)V"⟩
abbrev cX11_sum : ByteArray := prog_13_method_16_code
def yX11_sum : MethodName := ⟨RX11, "sum", "()V"⟩
abbrev cX11_term : ByteArray := prog_13_method_17_code
def yX11_term : MethodName := ⟨RX11, "term", "()V"⟩
abbrev cX11_factor : ByteArray := prog_13_method_18_code
def yX11_factor : MethodName := ⟨RX11, "factor", "()V"⟩
abbrev cX11_readsVertex : ByteArray := prog_13_method_19_code
def yX11_readsVertex : MethodName := ⟨RX11, "readsVertex", "()I"⟩
abbrev cX11_edgeIn : ByteArray := prog_13_method_20_code
def yX11_edgeIn : MethodName := ⟨RX11, "edgeIn", "([IIIII)I"⟩
abbrev cX11_edgeLine : ByteArray := prog_13_method_21_code
def yX11_edgeLine : MethodName := ⟨RX11, "edgeLine", "()V"⟩
abbrev cX11_absorbLine : ByteArray := prog_13_method_22_code
def yX11_absorbLine : MethodName := ⟨RX11, "absorbLine", "()V"⟩
abbrev cX11_relabels : ByteArray := prog_13_method_23_code
def yX11_relabels : MethodName := ⟨RX11, "relabels", "([IIIII)V"⟩
abbrev cX11_joinLine : ByteArray := prog_13_method_24_code
def yX11_joinLine : MethodName := ⟨RX11, "joinLine", "()V"⟩
abbrev cX11_statement : ByteArray := prog_13_method_25_code
def yX11_statement : MethodName := ⟨RX11, "statement", "()V"⟩
abbrev cX11_texts : ByteArray := prog_13_method_26_code
def yX11_texts : MethodName := ⟨RX11, "texts", "()V"⟩
abbrev cX11_load : ByteArray := prog_13_method_27_code
def yX11_load : MethodName := ⟨RX11, "load", "(I)I"⟩
abbrev cX11_errorOffset : ByteArray := prog_13_method_28_code
def yX11_errorOffset : MethodName := ⟨RX11, "errorOffset", "()I"⟩
abbrev cX11_within : ByteArray := prog_13_method_29_code
def yX11_within : MethodName := ⟨RX11, "within", "(JJ)J"⟩
abbrev cX11_costOf : ByteArray := prog_13_method_30_code
def yX11_costOf : MethodName := ⟨RX11, "costOf", "(III)I"⟩
abbrev cX11_count : ByteArray := prog_13_method_31_code
def yX11_count : MethodName := ⟨RX11, "count", "()I"⟩
abbrev cX11_lays : ByteArray := prog_13_method_32_code
def yX11_lays : MethodName := ⟨RX11, "lays", "()V"⟩
abbrev cX11_has : ByteArray := prog_13_method_33_code
def yX11_has : MethodName := ⟨RX11, "has", "(II)Z"⟩
abbrev cX11_reachedFrom : ByteArray := prog_13_method_34_code
def yX11_reachedFrom : MethodName := ⟨RX11, "reachedFrom", "(I)I"⟩
abbrev cX11_divisor : ByteArray := prog_13_method_35_code
def yX11_divisor : MethodName := ⟨RX11, "divisor", "(JJ)J"⟩
abbrev cX11_fraction : ByteArray := prog_13_method_36_code
def yX11_fraction : MethodName := ⟨RX11, "fraction", "(JJ)V"⟩
abbrev cX11_told : ByteArray := prog_13_method_37_code
def yX11_told : MethodName := ⟨RX11, "told", "(Z)J"⟩
abbrev cX11_determinant : ByteArray := prog_13_method_38_code
def yX11_determinant : MethodName := ⟨RX11, "determinant", "(I)J"⟩
abbrev cX11_determinantWith : ByteArray := prog_13_method_39_code
def yX11_determinantWith : MethodName := ⟨RX11, "determinantWith", "(I)J"⟩
abbrev cX11_begins : ByteArray := prog_13_method_40_code
def yX11_begins : MethodName := ⟨RX11, "begins", "(II)V"⟩
abbrev cX11_further : ByteArray := prog_13_method_41_code
def yX11_further : MethodName := ⟨RX11, "further", "(IJ)V"⟩
abbrev cX11_solves : ByteArray := prog_13_method_42_code
def yX11_solves : MethodName := ⟨RX11, "solves", "(I)V"⟩
abbrev cX11_meanTo : ByteArray := prog_13_method_43_code
def yX11_meanTo : MethodName := ⟨RX11, "meanTo", "(IIZ)V"⟩
abbrev cX11_isVertex : ByteArray := prog_13_method_44_code
def yX11_isVertex : MethodName := ⟨RX11, "isVertex", "(I)Z"⟩
abbrev cX11_size : ByteArray := prog_13_method_45_code
def yX11_size : MethodName := ⟨RX11, "size", "()I"⟩
abbrev cX11_edgeCount : ByteArray := prog_13_method_46_code
def yX11_edgeCount : MethodName := ⟨RX11, "edgeCount", "()I"⟩
abbrev cX11_isEdge : ByteArray := prog_13_method_47_code
def yX11_isEdge : MethodName := ⟨RX11, "isEdge", "(I)Z"⟩
abbrev cX11_edge : ByteArray := prog_13_method_48_code
def yX11_edge : MethodName := ⟨RX11, "edge", "(II)I"⟩
abbrev cX11_starts : ByteArray := prog_13_method_49_code
def yX11_starts : MethodName := ⟨RX11, "starts", "(I)Z"⟩
abbrev cX11_starts2 : ByteArray := prog_13_method_50_code
def yX11_starts2 : MethodName := ⟨RX11, "starts2", "(II)Z"⟩
abbrev cX11_degree : ByteArray := prog_13_method_51_code
def yX11_degree : MethodName := ⟨RX11, "degree", "(I)I"⟩
abbrev cX11_reachable : ByteArray := prog_13_method_52_code
def yX11_reachable : MethodName := ⟨RX11, "reachable", "(I)I"⟩
abbrev cX11_step : ByteArray := prog_13_method_53_code
def yX11_step : MethodName := ⟨RX11, "step", "(II)V"⟩
abbrev cX11_transition : ByteArray := prog_13_method_54_code
def yX11_transition : MethodName := ⟨RX11, "transition", "(IIZ)I"⟩
abbrev cX11_canGo : ByteArray := prog_13_method_55_code
def yX11_canGo : MethodName := ⟨RX11, "canGo", "(II)Z"⟩
abbrev cX11_hittingTime : ByteArray := prog_13_method_56_code
def yX11_hittingTime : MethodName := ⟨RX11, "hittingTime", "(IIZ)J"⟩
abbrev cX11_hittingCost : ByteArray := prog_13_method_57_code
def yX11_hittingCost : MethodName := ⟨RX11, "hittingCost", "(IIZ)J"⟩
abbrev cX11_commutes : ByteArray := prog_13_method_58_code
def yX11_commutes : MethodName := ⟨RX11, "commutes", "(II)V"⟩
abbrev cX11_commuteTime : ByteArray := prog_13_method_59_code
def yX11_commuteTime : MethodName := ⟨RX11, "commuteTime", "(IIZ)J"⟩
abbrev cX11_resistance : ByteArray := prog_13_method_60_code
def yX11_resistance : MethodName := ⟨RX11, "resistance", "(IIZ)J"⟩
abbrev cX11_treesNow : ByteArray := prog_13_method_61_code
def yX11_treesNow : MethodName := ⟨RX11, "treesNow", "()J"⟩
abbrev cX11_trees : ByteArray := prog_13_method_62_code
def yX11_trees : MethodName := ⟨RX11, "trees", "()J"⟩
abbrev cX11_absorbing : ByteArray := prog_13_method_63_code
def yX11_absorbing : MethodName := ⟨RX11, "absorbing", "()I"⟩
abbrev cX11_absorption : ByteArray := prog_13_method_64_code
def yX11_absorption : MethodName := ⟨RX11, "absorption", "(IIZ)J"⟩
abbrev cX11_absorptionTime : ByteArray := prog_13_method_65_code
def yX11_absorptionTime : MethodName := ⟨RX11, "absorptionTime", "(IZ)J"⟩
abbrev cX11_numbers : ByteArray := prog_13_method_66_code
def yX11_numbers : MethodName := ⟨RX11, "numbers", "()V"⟩
abbrev cX11_blocksNow : ByteArray := prog_13_method_67_code
def yX11_blocksNow : MethodName := ⟨RX11, "blocksNow", "()I"⟩
abbrev cX11_toBlock : ByteArray := prog_13_method_68_code
def yX11_toBlock : MethodName := ⟨RX11, "toBlock", "(II)I"⟩
abbrev cX11_by : ByteArray := prog_13_method_69_code
def yX11_by : MethodName := ⟨RX11, "by", "(I)I"⟩
abbrev cX11_areUnlike : ByteArray := prog_13_method_70_code
def yX11_areUnlike : MethodName := ⟨RX11, "areUnlike", "(III)Z"⟩
abbrev cX11_firstParted : ByteArray := prog_13_method_71_code
def yX11_firstParted : MethodName := ⟨RX11, "firstParted", "()I"⟩
abbrev cX11_blockOf : ByteArray := prog_13_method_72_code
def yX11_blockOf : MethodName := ⟨RX11, "blockOf", "(I)I"⟩
abbrev cX11_blockCount : ByteArray := prog_13_method_73_code
def yX11_blockCount : MethodName := ⟨RX11, "blockCount", "()I"⟩
abbrev cX11_isLumpable : ByteArray := prog_13_method_74_code
def yX11_isLumpable : MethodName := ⟨RX11, "isLumpable", "()Z"⟩
abbrev cX11_parted : ByteArray := prog_13_method_75_code
def yX11_parted : MethodName := ⟨RX11, "parted", "()I"⟩
abbrev cX11_firstOf : ByteArray := prog_13_method_76_code
def yX11_firstOf : MethodName := ⟨RX11, "firstOf", "(I)I"⟩
abbrev cX11_setOf : ByteArray := prog_13_method_77_code
def yX11_setOf : MethodName := ⟨RX11, "setOf", "(I)I"⟩
abbrev cX11_areBlocks : ByteArray := prog_13_method_78_code
def yX11_areBlocks : MethodName := ⟨RX11, "areBlocks", "(II)Z"⟩
abbrev cX11_lumped : ByteArray := prog_13_method_79_code
def yX11_lumped : MethodName := ⟨RX11, "lumped", "(IIZ)I"⟩
abbrev cX11_lumpedTime : ByteArray := prog_13_method_80_code
def yX11_lumpedTime : MethodName := ⟨RX11, "lumpedTime", "(IIZ)J"⟩
abbrev cX11_after : ByteArray := prog_13_method_81_code
def yX11_after : MethodName := ⟨RX11, "after", "(III)F"⟩
abbrev cX11_walk : ByteArray := prog_13_method_82_code
def yX11_walk : MethodName := ⟨RX11, "walk", "(IIII)I"⟩
abbrev cX11_setWeight : ByteArray := prog_13_method_83_code
def yX11_setWeight : MethodName := ⟨RX11, "setWeight", "(II)I"⟩
abbrev cX11_addEdge : ByteArray := prog_13_method_84_code
def yX11_addEdge : MethodName := ⟨RX11, "addEdge", "(III)I"⟩
abbrev cX11_removeEdge : ByteArray := prog_13_method_85_code
def yX11_removeEdge : MethodName := ⟨RX11, "removeEdge", "(I)I"⟩
abbrev cX11_setAbsorbing : ByteArray := prog_13_method_86_code
def yX11_setAbsorbing : MethodName := ⟨RX11, "setAbsorbing", "(IZ)I"⟩
abbrev cX11_join : ByteArray := prog_13_method_87_code
def yX11_join : MethodName := ⟨RX11, "join", "(II)I"⟩
abbrev cX11_separate : ByteArray := prog_13_method_88_code
def yX11_separate : MethodName := ⟨RX11, "separate", "(I)I"⟩
abbrev cX11_divides : ByteArray := prog_13_method_89_code
def yX11_divides : MethodName := ⟨RX11, "divides", "()V"⟩
abbrev cX11_refine : ByteArray := prog_13_method_90_code
def yX11_refine : MethodName := ⟨RX11, "refine", "()I"⟩
abbrev cX11_undo : ByteArray := prog_13_method_91_code
def yX11_undo : MethodName := ⟨RX11, "undo", "()I"⟩
abbrev cX11_checksum : ByteArray := prog_13_method_92_code
def yX11_checksum : MethodName := ⟨RX11, "checksum", "()J"⟩
def RJx145de : String := "java/io/Serializable"
def TJx145de : u_T := fun k => match k with
  | _ => ("", "", "", false)
def tyJx145de : Nat → FieldType := fun k => match k with
  | _ => .int
abbrev wsJx145de0 : List Cond := u_ws RJx145de TJx145de 0
theorem nmJx145de : ∀ a, a < 0 → ∀ b, b < 0 → a ≠ b → (TJx145de a).2.1 ≠ (TJx145de b).2.1 := by decide +kernel
theorem tyJx145de_ok : ∀ k, k < 0 → parseFieldDescriptor (TJx145de k).2.2.1 = some (tyJx145de k) := by decide +kernel
def RJx9f9b0 : String := "java/lang/CharSequence"
def TJx9f9b0 : u_T := fun k => match k with
  | _ => ("", "", "", false)
def tyJx9f9b0 : Nat → FieldType := fun k => match k with
  | _ => .int
abbrev wsJx9f9b00 : List Cond := u_ws RJx9f9b0 TJx9f9b0 0
theorem nmJx9f9b0 : ∀ a, a < 0 → ∀ b, b < 0 → a ≠ b → (TJx9f9b0 a).2.1 ≠ (TJx9f9b0 b).2.1 := by decide +kernel
theorem tyJx9f9b0_ok : ∀ k, k < 0 → parseFieldDescriptor (TJx9f9b0 k).2.2.1 = some (tyJx9f9b0 k) := by decide +kernel
def RJx8e188 : String := "java/lang/Cloneable"
def TJx8e188 : u_T := fun k => match k with
  | _ => ("", "", "", false)
def tyJx8e188 : Nat → FieldType := fun k => match k with
  | _ => .int
abbrev wsJx8e1880 : List Cond := u_ws RJx8e188 TJx8e188 0
theorem nmJx8e188 : ∀ a, a < 0 → ∀ b, b < 0 → a ≠ b → (TJx8e188 a).2.1 ≠ (TJx8e188 b).2.1 := by decide +kernel
theorem tyJx8e188_ok : ∀ k, k < 0 → parseFieldDescriptor (TJx8e188 k).2.2.1 = some (tyJx8e188 k) := by decide +kernel
def RJxb160c : String := "java/lang/Comparable"
def TJxb160c : u_T := fun k => match k with
  | _ => ("", "", "", false)
def tyJxb160c : Nat → FieldType := fun k => match k with
  | _ => .int
abbrev wsJxb160c0 : List Cond := u_ws RJxb160c TJxb160c 0
theorem nmJxb160c : ∀ a, a < 0 → ∀ b, b < 0 → a ≠ b → (TJxb160c a).2.1 ≠ (TJxb160c b).2.1 := by decide +kernel
theorem tyJxb160c_ok : ∀ k, k < 0 → parseFieldDescriptor (TJxb160c k).2.2.1 = some (tyJxb160c k) := by decide +kernel
def RJ9 : String := "java/lang/Math"
def TJ9 : u_T := fun k => match k with
  | _ => ("", "", "", false)
def tyJ9 : Nat → FieldType := fun k => match k with
  | _ => .int
abbrev wsJ90 : List Cond := u_ws RJ9 TJ9 0
theorem nmJ9 : ∀ a, a < 0 → ∀ b, b < 0 → a ≠ b → (TJ9 a).2.1 ≠ (TJ9 b).2.1 := by decide +kernel
theorem tyJ9_ok : ∀ k, k < 0 → parseFieldDescriptor (TJ9 k).2.2.1 = some (tyJ9 k) := by decide +kernel
abbrev cJ9_abs_067f4 : ByteArray := prog_19_method_61_code
def yJ9_abs_067f4 : MethodName := ⟨RJ9, "abs", "(J)J"⟩
abbrev cJ9_max_7cf53 : ByteArray := prog_19_method_65_code
def yJ9_max_7cf53 : MethodName := ⟨RJ9, "max", "(II)I"⟩
abbrev cJ9_max_f86c9 : ByteArray := prog_19_method_66_code
def yJ9_max_f86c9 : MethodName := ⟨RJ9, "max", "(JJ)J"⟩
abbrev cJ9_min_7cf53 : ByteArray := prog_19_method_69_code
def yJ9_min_7cf53 : MethodName := ⟨RJ9, "min", "(II)I"⟩
abbrev cJ9_min_f86c9 : ByteArray := prog_19_method_70_code
def yJ9_min_f86c9 : MethodName := ⟨RJ9, "min", "(JJ)J"⟩
def RJ0 : String := "java/lang/String"
def TJ0 : u_T := fun k => match k with
  | _ => ("", "", "", false)
def tyJ0 : Nat → FieldType := fun k => match k with
  | _ => .int
abbrev wsJ00 : List Cond := u_ws RJ0 TJ0 0
theorem nmJ0 : ∀ a, a < 0 → ∀ b, b < 0 → a ≠ b → (TJ0 a).2.1 ≠ (TJ0 b).2.1 := by decide +kernel
theorem tyJ0_ok : ∀ k, k < 0 → parseFieldDescriptor (TJ0 k).2.2.1 = some (tyJ0 k) := by decide +kernel
abbrev cJ0_length_8abf5 : ByteArray := prog_21_method_54_code
def yJ0_length_8abf5 : MethodName := ⟨RJ0, "length", "()I"⟩
abbrev cJ0_charAt_5068e : ByteArray := prog_21_method_56_code
def yJ0_charAt_5068e : MethodName := ⟨RJ0, "charAt", "(I)C"⟩
abbrev cJ0_coder_7d493 : ByteArray := prog_21_method_152_code
def yJ0_coder_7d493 : MethodName := ⟨RJ0, "coder", "()B"⟩
abbrev cJ0_isLatin1_aae02 : ByteArray := prog_21_method_154_code
def yJ0_isLatin1_aae02 : MethodName := ⟨RJ0, "isLatin1", "()Z"⟩
abbrev cJ0_checkIndex_df160 : ByteArray := prog_21_method_155_code
def yJ0_checkIndex_df160 : MethodName := ⟨RJ0, "checkIndex", "(II)V"⟩
def RJ1 : String := "java/lang/StringLatin1"
def TJ1 : u_T := fun k => match k with
  | _ => ("", "", "", false)
def tyJ1 : Nat → FieldType := fun k => match k with
  | _ => .int
abbrev wsJ10 : List Cond := u_ws RJ1 TJ1 0
theorem nmJ1 : ∀ a, a < 0 → ∀ b, b < 0 → a ≠ b → (TJ1 a).2.1 ≠ (TJ1 b).2.1 := by decide +kernel
theorem tyJ1_ok : ∀ k, k < 0 → parseFieldDescriptor (TJ1 k).2.2.1 = some (tyJ1 k) := by decide +kernel
abbrev cJ1_charAt_3b067 : ByteArray := prog_22_method_2_code
def yJ1_charAt_3b067 : MethodName := ⟨RJ1, "charAt", "([BI)C"⟩
def RJ2 : String := "java/lang/StringUTF16"
def TJ2 : u_T := fun k => match k with
  | _ => ("", "", "", false)
def tyJ2 : Nat → FieldType := fun k => match k with
  | _ => .int
abbrev wsJ20 : List Cond := u_ws RJ2 TJ2 0
theorem nmJ2 : ∀ a, a < 0 → ∀ b, b < 0 → a ≠ b → (TJ2 a).2.1 ≠ (TJ2 b).2.1 := by decide +kernel
theorem tyJ2_ok : ∀ k, k < 0 → parseFieldDescriptor (TJ2 k).2.2.1 = some (tyJ2 k) := by decide +kernel
abbrev cJ2_getChar_3b067 : ByteArray := prog_23_method_5_code
def yJ2_getChar_3b067 : MethodName := ⟨RJ2, "getChar", "([BI)C"⟩
abbrev cJ2_length_9d52b : ByteArray := prog_23_method_6_code
def yJ2_length_9d52b : MethodName := ⟨RJ2, "length", "([B)I"⟩
abbrev cJ2_charAt_3b067 : ByteArray := prog_23_method_83_code
def yJ2_charAt_3b067 : MethodName := ⟨RJ2, "charAt", "([BI)C"⟩
abbrev cJ2_checkIndex_2214a : ByteArray := prog_23_method_91_code
def yJ2_checkIndex_2214a : MethodName := ⟨RJ2, "checkIndex", "(I[B)V"⟩
def RJ10 : String := "java/lang/System"
def TJ10 : u_T := fun k => match k with
  | _ => ("", "", "", false)
def tyJ10 : Nat → FieldType := fun k => match k with
  | _ => .int
abbrev wsJ100 : List Cond := u_ws RJ10 TJ10 0
theorem nmJ10 : ∀ a, a < 0 → ∀ b, b < 0 → a ≠ b → (TJ10 a).2.1 ≠ (TJ10 b).2.1 := by decide +kernel
theorem tyJ10_ok : ∀ k, k < 0 → parseFieldDescriptor (TJ10 k).2.2.1 = some (tyJ10 k) := by decide +kernel
def RJxfd54e : String := "java/lang/constant/Constable"
def TJxfd54e : u_T := fun k => match k with
  | _ => ("", "", "", false)
def tyJxfd54e : Nat → FieldType := fun k => match k with
  | _ => .int
abbrev wsJxfd54e0 : List Cond := u_ws RJxfd54e TJxfd54e 0
theorem nmJxfd54e : ∀ a, a < 0 → ∀ b, b < 0 → a ≠ b → (TJxfd54e a).2.1 ≠ (TJxfd54e b).2.1 := by decide +kernel
theorem tyJxfd54e_ok : ∀ k, k < 0 → parseFieldDescriptor (TJxfd54e k).2.2.1 = some (tyJxfd54e k) := by decide +kernel
def RJx3cf43 : String := "java/lang/constant/ConstantDesc"
def TJx3cf43 : u_T := fun k => match k with
  | _ => ("", "", "", false)
def tyJx3cf43 : Nat → FieldType := fun k => match k with
  | _ => .int
abbrev wsJx3cf430 : List Cond := u_ws RJx3cf43 TJx3cf43 0
theorem nmJx3cf43 : ∀ a, a < 0 → ∀ b, b < 0 → a ≠ b → (TJx3cf43 a).2.1 ≠ (TJx3cf43 b).2.1 := by decide +kernel
theorem tyJx3cf43_ok : ∀ k, k < 0 → parseFieldDescriptor (TJx3cf43 k).2.2.1 = some (tyJx3cf43 k) := by decide +kernel
def RJ7 : String := "java/util/Arrays"
def TJ7 : u_T := fun k => match k with
  | _ => ("", "", "", false)
def tyJ7 : Nat → FieldType := fun k => match k with
  | _ => .int
abbrev wsJ70 : List Cond := u_ws RJ7 TJ7 0
theorem nmJ7 : ∀ a, a < 0 → ∀ b, b < 0 → a ≠ b → (TJ7 a).2.1 ≠ (TJ7 b).2.1 := by decide +kernel
theorem tyJ7_ok : ∀ k, k < 0 → parseFieldDescriptor (TJ7 k).2.2.1 = some (tyJ7 k) := by decide +kernel
abbrev cJ7_fill_d0a16 : ByteArray := prog_26_method_101_code
def yJ7_fill_d0a16 : MethodName := ⟨RJ7, "fill", "([JJ)V"⟩
abbrev cJ7_fill_53178 : ByteArray := prog_26_method_103_code
def yJ7_fill_53178 : MethodName := ⟨RJ7, "fill", "([II)V"⟩
abbrev cJ7_copyOf_59c91 : ByteArray := prog_26_method_123_code
def yJ7_copyOf_59c91 : MethodName := ⟨RJ7, "copyOf", "([II)[I"⟩
def RJ3 : String := "jdk/internal/util/Preconditions"
def TJ3 : u_T := fun k => match k with
  | _ => ("", "", "", false)
def tyJ3 : Nat → FieldType := fun k => match k with
  | _ => .int
abbrev wsJ30 : List Cond := u_ws RJ3 TJ3 0
theorem nmJ3 : ∀ a, a < 0 → ∀ b, b < 0 → a ≠ b → (TJ3 a).2.1 ≠ (TJ3 b).2.1 := by decide +kernel
theorem tyJ3_ok : ∀ k, k < 0 → parseFieldDescriptor (TJ3 k).2.2.1 = some (tyJ3 k) := by decide +kernel
abbrev cJ3_checkIndex_8e157 : ByteArray := prog_27_method_11_code
def yJ3_checkIndex_8e157 : MethodName := ⟨RJ3, "checkIndex", "(IILjava/util/function/BiFunction;)I"⟩
def RL : String := "RandomWalksLaw"
abbrev cL_load : ByteArray := method_3_code
def yL_load : MethodName := ⟨RL, "load", "(LRandomWalks;I[J)I"⟩
abbrev cL_edge : ByteArray := method_4_code
def yL_edge : MethodName := ⟨RL, "edge", "(LRandomWalks;II[J)I"⟩
abbrev cL_degree : ByteArray := method_5_code
def yL_degree : MethodName := ⟨RL, "degree", "(LRandomWalks;I[J)I"⟩
abbrev cL_reachable : ByteArray := method_6_code
def yL_reachable : MethodName := ⟨RL, "reachable", "(LRandomWalks;I[J)I"⟩
abbrev cL_transition : ByteArray := method_7_code
def yL_transition : MethodName := ⟨RL, "transition", "(LRandomWalks;IIZ[J)I"⟩
abbrev cL_hittingTime : ByteArray := method_8_code
def yL_hittingTime : MethodName := ⟨RL, "hittingTime", "(LRandomWalks;IIZ[J)I"⟩
abbrev cL_hittingCost : ByteArray := method_9_code
def yL_hittingCost : MethodName := ⟨RL, "hittingCost", "(LRandomWalks;IIZ[J)I"⟩
abbrev cL_commuteTime : ByteArray := method_10_code
def yL_commuteTime : MethodName := ⟨RL, "commuteTime", "(LRandomWalks;IIZ[J)I"⟩
abbrev cL_resistance : ByteArray := method_11_code
def yL_resistance : MethodName := ⟨RL, "resistance", "(LRandomWalks;IIZ[J)I"⟩
abbrev cL_absorption : ByteArray := method_12_code
def yL_absorption : MethodName := ⟨RL, "absorption", "(LRandomWalks;IIZ[J)I"⟩
abbrev cL_absorptionTime : ByteArray := method_13_code
def yL_absorptionTime : MethodName := ⟨RL, "absorptionTime", "(LRandomWalks;IZ[J)I"⟩
abbrev cL_blockOf : ByteArray := method_14_code
def yL_blockOf : MethodName := ⟨RL, "blockOf", "(LRandomWalks;I[J)I"⟩
abbrev cL_lumped : ByteArray := method_15_code
def yL_lumped : MethodName := ⟨RL, "lumped", "(LRandomWalks;IIZ[J)I"⟩
abbrev cL_lumpedTime : ByteArray := method_16_code
def yL_lumpedTime : MethodName := ⟨RL, "lumpedTime", "(LRandomWalks;IIZ[J)I"⟩
abbrev cL_after : ByteArray := method_17_code
def yL_after : MethodName := ⟨RL, "after", "(LRandomWalks;III[D)I"⟩
abbrev cL_walk : ByteArray := method_18_code
def yL_walk : MethodName := ⟨RL, "walk", "(LRandomWalks;IIII[J)I"⟩
abbrev cL_setWeight : ByteArray := method_19_code
def yL_setWeight : MethodName := ⟨RL, "setWeight", "(LRandomWalks;II[J)I"⟩
abbrev cL_addEdge : ByteArray := method_20_code
def yL_addEdge : MethodName := ⟨RL, "addEdge", "(LRandomWalks;III[J)I"⟩
abbrev cL_removeEdge : ByteArray := method_21_code
def yL_removeEdge : MethodName := ⟨RL, "removeEdge", "(LRandomWalks;I[J)I"⟩
abbrev cL_setAbsorbing : ByteArray := method_22_code
def yL_setAbsorbing : MethodName := ⟨RL, "setAbsorbing", "(LRandomWalks;IZ[J)I"⟩
abbrev cL_join : ByteArray := method_23_code
def yL_join : MethodName := ⟨RL, "join", "(LRandomWalks;II[J)I"⟩
abbrev cL_separate : ByteArray := method_24_code
def yL_separate : MethodName := ⟨RL, "separate", "(LRandomWalks;I[J)I"⟩
abbrev cL_law : ByteArray := code
def yL_law : MethodName := ⟨RL, "law", "([I)Z"⟩
abbrev vwCl : List vw_C := [(RX0, TX0, 2), (RX1, TX1, 4), (RX2, TX2, 2), (RX3, TX3, 10), (RX4, TX4, 3), (RX5, TX5, 3), (RX6, TX6, 13), (RX7, TX7, 4), (RX8, TX8, 5), (RX9, TX9, 6), (RX10, TX10, 12), (RX11, TX11, 29)]
end
section
/-! ===== THE J-LAYER: the machine's judgement W over a heap told as a function (address ↦ cell), for methods told as a tuple ===== -/
abbrev Hp : Type := Nat → Option va_E
def hp (h : Hp) (a : Nat) (e : va_E) : Hp := fun q => if q = a then some e else h q
theorem hp_eq (h : Hp) (a : Nat) (e : va_E) : hp h a e a = some e := if_pos rfl
theorem hp_ne (h : Hp) {a q : Nat} (e : va_E) (n : q ≠ a) : hp h a e q = h q := if_neg n
/-- the run's fixed things: the classes and their slots, the array classes, the first new address, old addresses -/
abbrev Ev : Type := va_G × (Nat → ClassId) × Nat × (Nat → Nat)
def cA (v : Ev) (k : Nat) : ClassId := v.2.1 k
def z0 (v : Ev) : Nat := v.2.2.1
def oA (v : Ev) (k : Nat) : Nat := v.2.2.2 k
def Ar (v : Ev) : Nat → Prop := fun q => z0 v ≤ q
def ob (ci : Nat) (fs : List Value) : va_E := .inr (ci, fs)
def aI (v : Ev) (n : Nat) (f : Nat → Int32) : va_E := .inl (cA v 0, (n, .inl f))
def aJ (v : Ev) (n : Nat) (f : Nat → Int64) : va_E := .inl (cA v 1, (n, .inr (.inl f)))
def aF (v : Ev) (n : Nat) (f : Nat → UInt32) : va_E := .inl (cA v 2, (n, .inr (.inr (.inl f))))
def aB (v : Ev) (n : Nat) (f : Nat → Int32) : va_E := .inl (cA v 3, (n, .inl f))
def aD (v : Ev) (n : Nat) (f : Nat → UInt64) : va_E := .inl (cA v 4, (n, .inr (.inr (.inr (.inl f)))))
def aG (v : Ev) (n : Nat) (f : Nat → Option Nat) : va_E := .inl (cA v 5, (n, .inr (.inr (.inr (.inr f)))))
def tysE (v : Ev) : List (ClassId × FieldType) := [(cA v 0, .int), (cA v 1, .long), (cA v 2, .float), (cA v 3, .byte), (cA v 4, .double), (cA v 5, .object "RandomWalks$Graph")]
/-- the words that every method has: those of the tables that last -/
def big : List Cond := lw_tbl.filter goodWord
theorem big_of {w : Cond} (h : w ∈ lw_tbl) (g : goodWord w = true) : w ∈ big := List.mem_filter.mpr ⟨h, g⟩
theorem big_in {w : Cond} (h : w ∈ big) : w ∈ lw_tbl := (List.mem_filter.mp h).1
theorem big_good {w : Cond} (h : w ∈ big) : goodWord w = true := (List.mem_filter.mp h).2
theorem big_at (i : Nat) {w : Cond} (h : lw_tbl[i]? = some w) (g : goodWord w = true) : w ∈ big := big_of (List.mem_of_getElem? h) g
/-- the words that don't stand on the tables of one moment, but are kept -/
def nwk : Cond → Bool
  | .fieldLinkNest .. => true
  | .methodLinkNest .. => true
  | .castable .. => true
  | .declares _ => true
  | _ => false
theorem nwk_on {w : Cond} (h : nwk w = true) : w.onTables = true := by
  cases w <;> first | rfl | (simp [nwk] at h)
theorem nwk_warm {w : Cond} (h : nwk w = true) {s U : State} (hW : s.WarmedH U.vm) (hZ : va_Nw w s) : va_Nw w U := by
  cases w <;> first | (simp [nwk] at h; done) | exact va_Nw.warmF hW hZ | exact va_Nw.warmM hW hZ | exact va_Nw.warmC hW hZ | exact va_Nw.warmD hW hZ
/-- the texts: class, place in its pool, text -/
def stTab : List (String × Nat × String) := [("RandomWalks", 98, "the buffer does not hold as many bytes"), ("RandomWalks$Tokens", 61, "walk"), ("RandomWalks$Tokens", 67, "edge"), ("RandomWalks$Tokens", 69, "absorb"), ("RandomWalks$Tokens", 71, "join"), ("RandomWalks$Tokens", 73, "cost"), ("RandomWalks$Tokens", 75, "weight"), ("RandomWalks$Tokens", 77, "from"), ("RandomWalks$Tokens", 79, "to"), ("RandomWalks", 314, "there is no such edge"), ("RandomWalks", 133, "what is not 0 to 4"), ("RandomWalks", 311, "there is no such vertex"), ("RandomWalks", 320, "the vertex cannot be reached"), ("RandomWalks", 204, "the vertex is not absorbing"), ("RandomWalks", 322, "no absorbing vertex can be reached"), ("RandomWalks", 316, "there is no such block"), ("RandomWalks", 324, "the blocks cannot be lumped"), ("RandomWalks", 250, "the block cannot be reached"), ("RandomWalks", 256, "steps is not 0 to 100"), ("RandomWalks", 262, "steps is not 0 to 1000"), ("RandomWalks", 264, "seed is negative"), ("RandomWalks", 266, "what is not 0 to 3"), ("RandomWalks", 318, "the weight is not 1 to 9"), ("RandomWalks", 285, "the ends of an edge are different"), ("RandomWalks", 287, "there is an edge between them"), ("RandomWalksModel", 185, "walk"), ("RandomWalksModel", 164, "edge"), ("RandomWalksModel", 169, "absorb"), ("RandomWalksModel", 174, "join"), ("RandomWalksModel", 179, "cost"), ("RandomWalksModel", 140, "weight"), ("RandomWalksModel", 146, "from"), ("RandomWalksModel", 148, "to")]
/-- the texts whose signs are read -/
def stRead (i : Nat) : Bool := match stTab[i]? with
  | some q => q.1 == "RandomWalks$Tokens" || q.1 == "RandomWalksModel"
  | none => false
def stText (i : Nat) : List Nat := match stTab[i]? with
  | some q => q.2.2.toList.map Char.toNat
  | none => []
def exC : List String := ["java/lang/IndexOutOfBoundsException", "java/lang/IllegalArgumentException", "java/lang/IllegalStateException"]
/-- the old cells, which nothing changes: COST_ONE and what it holds, what a throw reads, the texts -/
def Old (v : Ev) (U : State) (H : Heap) : Prop :=
  va_Z "RandomWalks" "COST_ONE" "[I" (.ref (oA v 0)) (Ar v) U H ∧ va_T .int (oA v 0) 1 (fun _ => .int 1) (Ar v) U H ∧
  vx_Zq Bundle.tN "UNASSIGNED_STACK" Bundle.steD (Ar v) U H ∧ vx_Zq Bundle.tN "SUPPRESSED_SENTINEL" Bundle.listD (Ar v) U H ∧
  va_Z "java/lang/String" "COMPACT_STRINGS" "Z" (.int 1) (Ar v) U H ∧ va_Zq "jdk/internal/util/Preconditions" "SIOOBE_FORMATTER" "Ljava/util/function/BiFunction;" (Ar v) U H ∧
  ∀ i : Nat, stRead i = true → va_O "java/lang/String" (oA v (i + 1)) (Ar v) U H ∧ va_OF "java/lang/String" "coder" "B" (.int 0) (oA v (i + 1)) (Ar v) U H ∧ va_OF "java/lang/String" "value" "[B" (.ref (oA v (i + 101))) (oA v (i + 1)) (Ar v) U H ∧ va_T .byte (oA v (i + 101)) (stText i).length (fun j => .int (nI ((stText i).getD j 0))) (Ar v) U H
theorem Old.moved {v : Ev} {u U : State} {H : Heap} (hvm : u.vm.Alike U.vm) (h : Old v u H) : Old v U H :=
  ⟨va_Z.moved hvm h.1, va_T.moved hvm h.2.1, vx_Zq.moved hvm h.2.2.1, vx_Zq.moved hvm h.2.2.2.1, va_Z.moved hvm h.2.2.2.2.1, va_Zq.moved hvm h.2.2.2.2.2.1,
    fun i hi => ⟨va_O.moved hvm (h.2.2.2.2.2.2 i hi).1, va_OF.moved hvm (h.2.2.2.2.2.2 i hi).2.1, va_OF.moved hvm (h.2.2.2.2.2.2 i hi).2.2.1, va_T.moved hvm (h.2.2.2.2.2.2 i hi).2.2.2⟩⟩
theorem Old.kept {v : Ev} {U : State} {H H1 : Heap} (h : Old v U H) (hq : ∀ a : Nat, a < H.size → ¬ Ar v a → H1[a]? = H[a]?) : Old v U H1 :=
  ⟨va_Z.kept h.1 hq, va_T.kept h.2.1 hq, vx_Zq.kept h.2.2.1 hq, vx_Zq.kept h.2.2.2.1 hq, va_Z.kept h.2.2.2.2.1 hq, va_Zq.kept h.2.2.2.2.2.1 hq,
    fun i hi => ⟨va_O.kept (h.2.2.2.2.2.2 i hi).1 hq, va_OF.kept (h.2.2.2.2.2.2 i hi).2.1 hq, va_OF.kept (h.2.2.2.2.2.2 i hi).2.2.1 hq, va_T.kept (h.2.2.2.2.2.2 i hi).2.2.2 hq⟩⟩
/-- what the tables say beside the words that last -/
def Tb2 (v : Ev) (U : State) : Prop :=
  (∀ w ∈ lw_tbl, nwk w = true → va_Nw w U) ∧ (∀ (i : Nat) (q : String × Nat × String), stTab[i]? = some q → vk_R q.1 q.2.1 q.2.2 (oA v (i + 1)) U) ∧
  (∀ a ∈ exC, ∀ b ∈ exC, a ≠ b → va_Nc a b U) ∧ va_AO "RandomWalks$Graph" U
theorem Tb2.warm {v : Ev} {s U : State} (hW : s.WarmedH U.vm) (h : Tb2 v s) : Tb2 v U :=
  ⟨fun w hw hk => nwk_warm hk hW (h.1 w hw hk), fun i q hq => vk_R.warm hW (h.2.1 i q hq), fun a ha b hb hab => va_Nc.moved hW.alike (h.2.2.1 a ha b hb hab), va_AO.moved hW.alike h.2.2.2⟩
/-- the tables' part -/
def Bs (v : Ev) (U : State) : Prop := va_K v.1 vwCl (tysE v) U ∧ Tb2 v U ∧ Old v U U.heap
/-- the heap's part -/
def Hh (v : Ev) (h : Hp) (H : Heap) : Prop := ∀ (a : Nat) (e : va_E), h a = some e → z0 v ≤ a ∧ va_at v.1 vwCl (a, e) H
def Rp (v : Ev) (h : Hp) (top : Nat) (U : State) : Prop := Bs v U ∧ U.heap.size = top ∧ z0 v ≤ top ∧ Hh v h U.heap
theorem Hh.lt {v : Ev} {h : Hp} {H : Heap} (hh : Hh v h H) {a : Nat} {e : va_E} (ha : h a = some e) : a < H.size := (hh a e ha).2.lt
theorem Hh.set {v : Ev} {h : Hp} {H H1 : Heap} {a : Nat} {e : va_E} (hh : Hh v h H) (ha : z0 v ≤ a) (he : va_at v.1 vwCl (a, e) H1) (oq : ∀ q : Nat, q ≠ a → H1[q]? = H[q]?) : Hh v (hp h a e) H1 := by
  intro q e' hq
  by_cases hqa : q = a
  · subst hqa
    rw [hp_eq] at hq
    cases hq
    exact ⟨ha, he⟩
  · rw [hp_ne h e hqa] at hq
    exact ⟨(hh q e' hq).1, (hh q e' hq).2.kept (oq q hqa)⟩
theorem Hh.new {v : Ev} {h : Hp} {H H1 : Heap} {e : va_E} (hh : Hh v h H) (hz : z0 v ≤ H.size) (he : va_at v.1 vwCl (H.size, e) H1) (oq : ∀ q : Nat, q < H.size → H1[q]? = H[q]?) : Hh v (hp h H.size e) H1 := by
  intro q e' hq
  by_cases hqa : q = H.size
  · subst hqa
    rw [hp_eq] at hq
    cases hq
    exact ⟨hz, he⟩
  · rw [hp_ne h e hqa] at hq
    exact ⟨(hh q e' hq).1, (hh q e' hq).2.kept (oq q (hh.lt hq))⟩
/-- the locals by their places -/
def lsAt (ls : List (Option Value)) (i : Nat) : Option Value := (ls[i]?).getD none
def lvH (A : Array Slot) (n : Nat) (ls : List (Option Value)) : Prop := A.size = n ∧ lv_wf A ∧ ∀ (i : Nat) (w : Value), ls[i]? = some (some w) → A[i]? = some (.val w)
/-- the list of what is known, as the kit's rows take it -/
def lvL : Nat → List (Option Value) → List (Nat × Value)
  | _, [] => []
  | i, none :: t => lvL (i + 1) t
  | i, some w :: t => (i, w) :: lvL (i + 1) t
theorem lvL_mem : ∀ (ls : List (Option Value)) (b i : Nat) (w : Value), (i, w) ∈ lvL b ls ↔ b ≤ i ∧ ls[i - b]? = some (some w)
  | [], b, i, w => by simp [lvL]
  | none :: t, b, i, w => by
    rw [lvL, lvL_mem t (b + 1) i w]
    by_cases h : b = i
    · subst h
      constructor
      · rintro ⟨h1, h2⟩
        omega
      · rintro ⟨h1, h2⟩
        simp at h2
    · constructor
      · rintro ⟨h1, h2⟩
        refine ⟨by omega, ?_⟩
        rw [show i - b = (i - (b + 1)) + 1 by omega, List.getElem?_cons_succ]
        exact h2
      · rintro ⟨h1, h2⟩
        refine ⟨by omega, ?_⟩
        rw [show i - b = (i - (b + 1)) + 1 by omega, List.getElem?_cons_succ] at h2
        exact h2
  | some x :: t, b, i, w => by
    rw [lvL, List.mem_cons, lvL_mem t (b + 1) i w]
    by_cases h : b = i
    · subst h
      constructor
      · rintro (h1 | ⟨h1, h2⟩)
        · cases h1
          simp
        · omega
      · rintro ⟨h1, h2⟩
        simp at h2
        subst h2
        exact Or.inl rfl
    · constructor
      · rintro (h1 | ⟨h1, h2⟩)
        · cases h1
          exact absurd rfl h
        · refine ⟨by omega, ?_⟩
          rw [show i - b = (i - (b + 1)) + 1 by omega, List.getElem?_cons_succ]
          exact h2
      · rintro ⟨h1, h2⟩
        refine Or.inr ⟨by omega, ?_⟩
        rw [show i - b = (i - (b + 1)) + 1 by omega, List.getElem?_cons_succ] at h2
        exact h2
theorem lvH.has {A : Array Slot} {n : Nat} {ls : List (Option Value)} (h : lvH A n ls) : lv_has A n (lvL 0 ls) := by
  refine ⟨h.1, h.2.1, fun q hq => ?_⟩
  obtain ⟨i, w⟩ := q
  exact h.2.2 i w ((lvL_mem ls 0 i w).mp hq).2
theorem lvH.of {A : Array Slot} {n : Nat} {l : List (Nat × Value)} {ls : List (Option Value)} (h : lv_has A n l) (hs : ∀ (i : Nat) (w : Value), ls[i]? = some (some w) → (i, w) ∈ l) : lvH A n ls :=
  ⟨h.1, h.2.1, fun i w hw => h.2.2 (i, w) (hs i w hw)⟩
theorem lvH.at {A : Array Slot} {n : Nat} {ls : List (Option Value)} (h : lvH A n ls) {i : Nat} {w : Value} (hw : ls[i]? = some (some w)) : A[i]? = some (.val w) := h.2.2 i w hw
def isTwo : Option Value → Bool
  | some w => w.category == 2
  | none => false
/-- what lies ahead of a stored local, if it is a long, is gone -/
def lsCut : Nat → List (Option Value) → List (Option Value)
  | 1, x :: t => (if isTwo x then none else x) :: t
  | i + 2, x :: t => x :: lsCut (i + 1) t
  | _, l => l
def ls1 (ls : List (Option Value)) (i : Nat) (w : Value) : List (Option Value) := (lsCut i ls).set i (some w)
def ls2 (ls : List (Option Value)) (i : Nat) (w : Value) : List (Option Value) := ((lsCut i ls).set i (some w)).set (i + 1) none
theorem lsCut_at : ∀ (i : Nat) (ls : List (Option Value)) (j : Nat) (w : Value), (lsCut i ls)[j]? = some (some w) → ls[j]? = some (some w) ∧ (j + 1 = i → w.category ≠ 2)
  | 0, ls, j, w, h => by
    cases ls <;> exact ⟨h, fun q => by omega⟩
  | 1, [], j, w, h => by simp [lsCut] at h
  | 1, x :: t, j, w, h => by
    rw [lsCut] at h
    cases j with
    | zero =>
      simp only [List.getElem?_cons_zero, Option.some.injEq] at h ⊢
      split at h
      · cases h
      · next hx =>
        subst h
        refine ⟨rfl, fun _ hc => hx ?_⟩
        simp [isTwo, hc]
    | succ j => exact ⟨h, fun q => by omega⟩
  | i + 2, [], j, w, h => by simp [lsCut] at h
  | i + 2, x :: t, j, w, h => by
    rw [lsCut] at h
    cases j with
    | zero => exact ⟨h, fun q => by omega⟩
    | succ j =>
      rw [List.getElem?_cons_succ] at h
      obtain ⟨h1, h2⟩ := lsCut_at (i + 1) t j w h
      exact ⟨by rw [List.getElem?_cons_succ]; exact h1, fun q => h2 (by omega)⟩
theorem ls1_mem {ls : List (Option Value)} {i : Nat} {x : Value} (j : Nat) (w : Value) (h : (ls1 ls i x)[j]? = some (some w)) : (j, w) ∈ ((i, x) :: (lvL 0 ls).filter (fun q => !(q.1 == i) && !(q.1 + 1 == i && q.2.category == 2))) := by
  unfold ls1 at h
  by_cases hj : i = j
  · subst hj
    rw [List.getElem?_set] at h
    simp only [if_true] at h
    split at h
    · cases h
      exact List.mem_cons_self
    · cases h
  · rw [List.getElem?_set_ne hj] at h
    obtain ⟨h1, h2⟩ := lsCut_at i ls j w h
    refine List.mem_cons_of_mem _ (List.mem_filter.mpr ⟨(lvL_mem ls 0 j w).mpr ⟨Nat.zero_le _, h1⟩, ?_⟩)
    have e1 : (j == i) = false := by simp; omega
    by_cases hji : j + 1 = i
    · have e2 : (w.category == 2) = false := by simp [h2 hji]
      simp [e1, e2]
    · have e2 : (j + 1 == i) = false := by simp [hji]
      simp [e1, e2]
theorem ls2_mem {ls : List (Option Value)} {i : Nat} {x : Value} (j : Nat) (w : Value) (h : (ls2 ls i x)[j]? = some (some w)) : (j, w) ∈ ((i, x) :: (lvL 0 ls).filter (fun q => !(q.1 == i) && (!(q.1 == i + 1) && !(q.1 + 1 == i && q.2.category == 2)))) := by
  unfold ls2 at h
  by_cases hj2 : i + 1 = j
  · subst hj2
    rw [List.getElem?_set] at h
    simp only [if_true] at h
    split at h <;> cases h
  · rw [List.getElem?_set_ne hj2] at h
    by_cases hj : i = j
    · subst hj
      rw [List.getElem?_set] at h
      simp only [if_true] at h
      split at h
      · cases h
        exact List.mem_cons_self
      · cases h
    · rw [List.getElem?_set_ne hj] at h
      obtain ⟨h1, h2⟩ := lsCut_at i ls j w h
      refine List.mem_cons_of_mem _ (List.mem_filter.mpr ⟨(lvL_mem ls 0 j w).mpr ⟨Nat.zero_le _, h1⟩, ?_⟩)
      have e1 : (j == i) = false := by simp; omega
      have e3 : (j == i + 1) = false := by simp; omega
      by_cases hji : j + 1 = i
      · have e2 : (w.category == 2) = false := by simp [h2 hji]
        simp [e1, e2, e3]
      · have e2 : (j + 1 == i) = false := by simp [hji]
        simp [e1, e2, e3]
/-- a method: name, code, locals, answer, table of handlers -/
abbrev Md : Type := MethodName × ByteArray × Nat × Option FieldType × List (Nat × Nat × Nat × Nat)
def cw (M : Md) : Cond := match M.2.2.2.2 with
  | [] => .code M.1 M.2.1 M.2.2.1 M.2.2.2.1
  | hh => .codeWith M.1 M.2.1 M.2.2.1 M.2.2.2.1 hh
def rmOf (d mc ms : Nat) : Room := { frames := d, cells := mc, slots := ms, locals := 60 * d }
def Fx (v : Ev) (M : Md) (t0 : Nat) (p : Program) (l : Launch) (s : State) (m : MethodId) (args : Array Value) (meth : Method) (c : Code) : Prop :=
  p.tables.exec = Jvm.exec ∧ c.code = M.2.1 ∧ c.maxLocals = M.2.2.1 ∧ s.vm.findClass M.1.cls = some m.cls ∧ (∀ w ∈ big, w.before args s = true) ∧ meth.sig.returnType = M.2.2.2.1 ∧ meth.locks = false ∧ l.stackTraces = false ∧ Bs v s ∧ s.heap.size = t0 ∧ z0 v ≤ t0 ∧ meth.name = M.1.name ∧ c.exceptionTable.toList = tableOf M.2.2.2.2
/-- the judgement: at pc, with locals ls, stack st, heap h up to top -/
def J (v : Ev) (M : Md) (R : Room) (K : List Frame → Array Value → State → State → Prop) (t0 cells slots : Nat) (h : Hp) (top pc : Nat) (ls : List (Option Value)) (st : List Value) : Prop :=
  ∀ (p : Program) (l : Launch) (e : Env) (s : State) (m : MethodId) (args : Array Value) (below : List Frame) (meth : Method) (c : Code), Fx v M t0 p l s m args meth c →
    ∀ (H : Heap) (locs : List Loc) (A : Array Slot), H.size = top → Hh v h H → va_S (Ar v) s.heap H locs → lvH A M.2.2.1 ls →
      W p l e R s m args below meth c H locs cells slots (K below args s) (F0 m pc A st)
def Qc (v : Ev) (Qr : Option Value → Hp → Nat → Prop) : Array Value → State → Outcome → State → Prop := fun _ st oc t =>
  (∃ (r : Option Value) (h' : Hp) (top' : Nat), oc = .returned r ∧ Qr r h' top' ∧ t.heap.size = top' ∧ Hh v h' t.heap) ∧ va_F (Ar v) st t
def XC (v : Ev) (Qx : String → Hp → Nat → Prop) : String → State → State → Prop := fun E st t =>
  (∃ (h' : Hp) (top' : Nat), Qx E h' top' ∧ t.heap.size = top' ∧ Hh v h' t.heap) ∧ va_F (Ar v) st t
def KM (v : Ev) (Qr : Option Value → Hp → Nat → Prop) (Qx : String → Hp → Nat → Prop) (mc ms : Nat) : List Frame → Array Value → State → State → Prop :=
  fun below args s => vx_MQ below (Qc v Qr) (XC v Qx) args s mc ms (Ar v)
/-- a method's contract -/
def Cal (v : Ev) (M : Md) (d mc ms : Nat) (av : List Value) (h : Hp) (top : Nat) (Qr : Option Value → Hp → Nat → Prop) (Qx : String → Hp → Nat → Prop) : Prop :=
  ∀ l : Launch, l.stackTraces = false → vx_Met l M.1 (cw M :: big) (rmOf d mc ms) (va_Pc av (Rp v h top)) (Qc v Qr) (XC v Qx) mc ms (Ar v)
def noX : String → Hp → Nat → Prop := fun _ _ _ => False
/-- the locals at the entry -/
def eL (n : Nat) (av : List Value) : List (Option Value) := (av.flatMap fun w => if w.category = 2 then [some w, none] else [some w]) ++ List.replicate (n - (lg_sl av).length) none
theorem eL_mem : ∀ (av : List Value) (b i : Nat) (w : Value), (av.flatMap fun w => if w.category = 2 then [some w, none] else [some w])[i]? = some (some w) → (b + i, w) ∈ lv_args b av
  | [], b, i, w, h => by simp at h
  | x :: t, b, i, w, h => by
    rw [lv_args]
    rw [List.flatMap_cons] at h
    by_cases hx : x.category = 2
    · rw [if_pos hx] at h ⊢
      match i, h with
      | 0, h => simp at h; subst h; exact List.mem_cons_self
      | 1, h => simp at h
      | i + 2, h =>
        have h2 := eL_mem t (b + 2) i w (by simpa using h)
        rw [show b + (i + 2) = b + 2 + i by omega]
        exact List.mem_cons_of_mem _ h2
    · rw [if_neg hx] at h ⊢
      match i, h with
      | 0, h => simp at h; subst h; exact List.mem_cons_self
      | i + 1, h =>
        have h2 := eL_mem t (b + 1) i w (by simpa using h)
        rw [show b + (i + 1) = b + 1 + i by omega]
        exact List.mem_cons_of_mem _ h2
theorem eL_entry (av : List Value) {n : Nat} (hn : (lg_sl av).length ≤ n) : lvH ((lg_sl av ++ List.replicate (n - (lg_sl av).length) Slot.unset).toArray) n (eL n av) := by
  refine lvH.of (lv_entry av hn) (fun i w hw => ?_)
  unfold eL at hw
  rw [List.getElem?_append] at hw
  split at hw
  · have h1 := eL_mem av 0 i w hw
    rwa [Nat.zero_add] at h1
  · rw [List.getElem?_replicate] at hw
    split at hw <;> simp at hw
theorem Bs.warm {v : Ev} {s t : State} (hW : s.WarmedH t.vm) (h : Bs v s) (hF : va_F (Ar v) s t) : Bs v t :=
  ⟨h.1.moved hW.alike, h.2.1.warm hW, (h.2.2.moved hW.alike).kept fun a h1 h2 => hF.2 a h1 h2⟩
/-- the same tables and heap -/
theorem Bs.same {v : Ev} {s t : State} (hv : t.vm = s.vm) (hh : t.heap = s.heap) (h : Bs v s) : Bs v t :=
  h.warm (by rw [hv]; exact State.WarmedH.refl s) ⟨by rw [hh]; exact Nat.le_refl _, fun q _ _ => by rw [hh]⟩
theorem Rp.blind {v : Ev} {h : Hp} {top : Nat} {av : List Value} : FrameBlind (va_Pc av (Rp v h top)) :=
  fun a U g mk q => ⟨q.1, Bs.same (s := U) rfl rfl q.2.1, q.2.2.1, q.2.2.2.1, q.2.2.2.2⟩
/-- a contract out of the judgement at the entry -/
theorem Cal.ofJ {v : Ev} {M : Md} {d mc ms : Nat} {av : List Value} {h : Hp} {top : Nat} {Qr : Option Value → Hp → Nat → Prop} {Qx : String → Hp → Nat → Prop}
    (hpl : plainName M.1.cls = true) (hhh : M.2.2.2.2 = []) (hn : (lg_sl av).length ≤ M.2.2.1) (k : z0 v ≤ top → J v M (rmOf d mc ms) (KM v Qr Qx mc ms) top 0 0 h top 0 (eL M.2.2.1 av) []) : Cal v M d mc ms av h top Qr Qx := by
  intro l hl
  refine vx_ofW (ret := M.2.2.2.1) (cc := M.2.1) (maxL := M.2.2.1) (ws' := big) hpl (by unfold cw; rw [hhh]) ?_
  intro p e s m args below meth c s₁ B hml htb hP
  obtain ⟨rfl, hB, hz, hz0, hH⟩ := hP
  have hts : ∀ w ∈ big, w.before av.toArray s = true := fun w hw => atoms_spec (ws := cw M :: big) B.pre w (List.mem_cons_of_mem _ hw)
  have htab : c.exceptionTable.toList = tableOf M.2.2.2.2 := by
    rw [hhh]
    have : c.exceptionTable.toList = [] := by
      cases hc : c.exceptionTable.toList with
      | nil => rfl
      | cons x t => exact (htb x (by rw [hc]; exact List.mem_cons_self)).elim
    rw [this]
    rfl
  have hF : Fx v M top p l s m av.toArray meth c := ⟨B.exec, B.bytes, hml, findClass_of_methodNamed B.named, hts, B.returns, B.notSynchronized, hl, hB, hz, hz0, (name_of_methodNamed B.named B.method).1, htab⟩
  rw [lg_entry_eq]
  exact k hz0 p l e s m av.toArray below meth c hF s.heap [] _ hz hH va_S.rf (eL_entry av hn)
theorem Cal.ofJH {v : Ev} {M : Md} {d mc ms : Nat} {av : List Value} {h : Hp} {top : Nat} {Qr : Option Value → Hp → Nat → Prop} {Qx : String → Hp → Nat → Prop}
    (hpl : plainName M.1.cls = true) {x : Nat × Nat × Nat × Nat} {hh : List (Nat × Nat × Nat × Nat)} (hhh : M.2.2.2.2 = x :: hh) (hn : (lg_sl av).length ≤ M.2.2.1) (k : z0 v ≤ top → J v M (rmOf d mc ms) (KM v Qr Qx mc ms) top 0 0 h top 0 (eL M.2.2.1 av) []) : Cal v M d mc ms av h top Qr Qx := by
  intro l hl
  have hcw : cw M = Cond.codeWith M.1 M.2.1 M.2.2.1 M.2.2.2.1 M.2.2.2.2 := by unfold cw; rw [hhh]
  refine vx_ofWH (ret := M.2.2.2.1) (cc := M.2.1) (maxL := M.2.2.1) (ws' := big) (hh := M.2.2.2.2) hpl (by rw [hcw]) ?_
  intro p e s m args below meth c s₁ B hml hP
  obtain ⟨rfl, hB, hz, hz0, hH⟩ := hP
  have hts : ∀ w ∈ big, w.before av.toArray s = true := fun w hw => atoms_spec (ws := cw M :: big) B.pre w (List.mem_cons_of_mem _ hw)
  have htab : c.exceptionTable.toList = tableOf M.2.2.2.2 := vx_table (x := M.1) (y := M.1) B (by rw [← hcw]; exact atoms_spec (ws := cw M :: big) B.pre _ List.mem_cons_self)
  have hF : Fx v M top p l s m av.toArray meth c := ⟨B.exec, B.bytes, hml, findClass_of_methodNamed B.named, hts, B.returns, B.notSynchronized, hl, hB, hz, hz0, (name_of_methodNamed B.named B.method).1, htab⟩
  rw [lg_entry_eq]
  exact k hz0 p l e s m av.toArray below meth c hF s.heap [] _ hz hH va_S.rf (eL_entry av hn)
end
section
/-! ===== J rows: instructions without the heap (written by wip/whole/gen_rows.py) ===== -/
section JR
variable {v : Ev} {M : Md} {R : Room} {K : List Frame → Array Value → State → State → Prop} {t0 cells slots : Nat} {h : Hp} {top pc : Nat} {ls : List (Option Value)} {st : List Value}
theorem r_iconst {n : Int} {w : Int32} (d : decode M.2.1 pc = .ok (.iconst n, 1)) (hv : Int32.ofInt n = w) (k : J v M R K t0 cells slots h top (pc + 1) ls (.int w :: st)) : J v M R K t0 cells slots h top pc ls (st) := by
  intro p l e s m args below meth c F H locs A hz hH hS hl
  exact lv_iconst F.1 F.2.1 d hv (k p l e s m args below meth c F H locs A hz hH hS hl)
theorem r_bipush {n : Int} {w : Int32} (d : decode M.2.1 pc = .ok (.bipush n, 2)) (hv : (Int8.ofInt n).toInt32 = w) (k : J v M R K t0 cells slots h top (pc + 2) ls (.int w :: st)) : J v M R K t0 cells slots h top pc ls (st) := by
  intro p l e s m args below meth c F H locs A hz hH hS hl
  exact lv_bipush F.1 F.2.1 d hv (k p l e s m args below meth c F H locs A hz hH hS hl)
theorem r_sipush {n : Int} {w : Int32} (d : decode M.2.1 pc = .ok (.sipush n, 3)) (hv : (Int16.ofInt n).toInt32 = w) (k : J v M R K t0 cells slots h top (pc + 3) ls (.int w :: st)) : J v M R K t0 cells slots h top pc ls (st) := by
  intro p l e s m args below meth c F H locs A hz hH hS hl
  exact lv_sipush F.1 F.2.1 d hv (k p l e s m args below meth c F H locs A hz hH hS hl)
theorem r_lconst {n : Fin 2} {w : Int64} (d : decode M.2.1 pc = .ok (.lconst n, 1)) (hv : Int64.ofNat (n : Nat) = w) (k : J v M R K t0 cells slots h top (pc + 1) ls (.long w :: st)) : J v M R K t0 cells slots h top pc ls (st) := by
  intro p l e s m args below meth c F H locs A hz hH hS hl
  exact lv_lconst F.1 F.2.1 d hv (k p l e s m args below meth c F H locs A hz hH hS hl)
theorem r_fconst0  (d : decode M.2.1 pc = .ok (.fconst 0, 1))  (k : J v M R K t0 cells slots h top (pc + 1) ls (.float FP.fconst0 :: st)) : J v M R K t0 cells slots h top pc ls (st) := by
  intro p l e s m args below meth c F H locs A hz hH hS hl
  exact lv_fconst0 F.1 F.2.1 d  (k p l e s m args below meth c F H locs A hz hH hS hl)
theorem r_fconst1  (d : decode M.2.1 pc = .ok (.fconst 1, 1))  (k : J v M R K t0 cells slots h top (pc + 1) ls (.float FP.fconst1 :: st)) : J v M R K t0 cells slots h top pc ls (st) := by
  intro p l e s m args below meth c F H locs A hz hH hS hl
  exact lv_fconst1 F.1 F.2.1 d  (k p l e s m args below meth c F H locs A hz hH hS hl)
theorem r_iload_n {k0 : Fin 4} {i : Nat} {x : Int32} (d : decode M.2.1 pc = .ok (.iload_n k0, 1)) (hi : (k0 : Nat) = i) (hx : ls[i]? = some (some (.int x))) (k : J v M R K t0 cells slots h top (pc + 1) ls (.int x :: st)) : J v M R K t0 cells slots h top pc ls (st) := by
  intro p l e s m args below meth c F H locs A hz hH hS hl
  exact lv_iload_n F.1 F.2.1 d hi (hl.at hx) (k p l e s m args below meth c F H locs A hz hH hS hl)
theorem r_iload {i : Nat} {x : Int32} (d : decode M.2.1 pc = .ok (.iload i, 2)) (hx : ls[i]? = some (some (.int x))) (k : J v M R K t0 cells slots h top (pc + 2) ls (.int x :: st)) : J v M R K t0 cells slots h top pc ls (st) := by
  intro p l e s m args below meth c F H locs A hz hH hS hl
  exact lv_iload F.1 F.2.1 d (hl.at hx) (k p l e s m args below meth c F H locs A hz hH hS hl)
theorem r_istore_n {k0 : Fin 4} {i : Nat} {x : Int32} (d : decode M.2.1 pc = .ok (.istore_n k0, 1)) (hi : (k0 : Nat) = i) (hn : i < M.2.2.1) (k : J v M R K t0 cells slots h top (pc + 1) (ls1 ls i (.int x)) st) : J v M R K t0 cells slots h top pc ls (.int x :: st) := by
  intro p l e s m args below meth c F H locs A hz hH hS hl
  exact lv_istore_n F.1 F.2.1 d hi hl.has hn rfl (fun A1 h1 => k p l e s m args below meth c F H locs A1 hz hH hS (lvH.of h1 (fun j w hw => ls1_mem j w hw)))
theorem r_istore {i : Nat} {x : Int32} (d : decode M.2.1 pc = .ok (.istore i, 2)) (hn : i < M.2.2.1) (k : J v M R K t0 cells slots h top (pc + 2) (ls1 ls i (.int x)) st) : J v M R K t0 cells slots h top pc ls (.int x :: st) := by
  intro p l e s m args below meth c F H locs A hz hH hS hl
  exact lv_istore F.1 F.2.1 d hl.has hn rfl (fun A1 h1 => k p l e s m args below meth c F H locs A1 hz hH hS (lvH.of h1 (fun j w hw => ls1_mem j w hw)))
theorem r_lload_n {k0 : Fin 4} {i : Nat} {x : Int64} (d : decode M.2.1 pc = .ok (.lload_n k0, 1)) (hi : (k0 : Nat) = i) (hx : ls[i]? = some (some (.long x))) (k : J v M R K t0 cells slots h top (pc + 1) ls (.long x :: st)) : J v M R K t0 cells slots h top pc ls (st) := by
  intro p l e s m args below meth c F H locs A hz hH hS hl
  exact lv_lload_n F.1 F.2.1 d hi (hl.at hx) (k p l e s m args below meth c F H locs A hz hH hS hl)
theorem r_lload {i : Nat} {x : Int64} (d : decode M.2.1 pc = .ok (.lload i, 2)) (hx : ls[i]? = some (some (.long x))) (k : J v M R K t0 cells slots h top (pc + 2) ls (.long x :: st)) : J v M R K t0 cells slots h top pc ls (st) := by
  intro p l e s m args below meth c F H locs A hz hH hS hl
  exact lv_lload F.1 F.2.1 d (hl.at hx) (k p l e s m args below meth c F H locs A hz hH hS hl)
theorem r_lstore_n {k0 : Fin 4} {i : Nat} {x : Int64} (d : decode M.2.1 pc = .ok (.lstore_n k0, 1)) (hi : (k0 : Nat) = i) (hn : i + 1 < M.2.2.1) (k : J v M R K t0 cells slots h top (pc + 1) (ls2 ls i (.long x)) st) : J v M R K t0 cells slots h top pc ls (.long x :: st) := by
  intro p l e s m args below meth c F H locs A hz hH hS hl
  exact lv_lstore_n F.1 F.2.1 d hi hl.has hn rfl (fun A1 h1 => k p l e s m args below meth c F H locs A1 hz hH hS (lvH.of h1 (fun j w hw => ls2_mem j w hw)))
theorem r_lstore {i : Nat} {x : Int64} (d : decode M.2.1 pc = .ok (.lstore i, 2)) (hn : i + 1 < M.2.2.1) (k : J v M R K t0 cells slots h top (pc + 2) (ls2 ls i (.long x)) st) : J v M R K t0 cells slots h top pc ls (.long x :: st) := by
  intro p l e s m args below meth c F H locs A hz hH hS hl
  exact lv_lstore F.1 F.2.1 d hl.has hn rfl (fun A1 h1 => k p l e s m args below meth c F H locs A1 hz hH hS (lvH.of h1 (fun j w hw => ls2_mem j w hw)))
theorem r_aload_n {k0 : Fin 4} {i : Nat} {x : Nat} (d : decode M.2.1 pc = .ok (.aload_n k0, 1)) (hi : (k0 : Nat) = i) (hx : ls[i]? = some (some (.ref x))) (k : J v M R K t0 cells slots h top (pc + 1) ls (.ref x :: st)) : J v M R K t0 cells slots h top pc ls (st) := by
  intro p l e s m args below meth c F H locs A hz hH hS hl
  exact lv_aload_n F.1 F.2.1 d hi (hl.at hx) (k p l e s m args below meth c F H locs A hz hH hS hl)
theorem r_aload {i : Nat} {x : Nat} (d : decode M.2.1 pc = .ok (.aload i, 2)) (hx : ls[i]? = some (some (.ref x))) (k : J v M R K t0 cells slots h top (pc + 2) ls (.ref x :: st)) : J v M R K t0 cells slots h top pc ls (st) := by
  intro p l e s m args below meth c F H locs A hz hH hS hl
  exact lv_aload F.1 F.2.1 d (hl.at hx) (k p l e s m args below meth c F H locs A hz hH hS hl)
theorem r_astore_n {k0 : Fin 4} {i : Nat} {x : Nat} (d : decode M.2.1 pc = .ok (.astore_n k0, 1)) (hi : (k0 : Nat) = i) (hn : i < M.2.2.1) (k : J v M R K t0 cells slots h top (pc + 1) (ls1 ls i (.ref x)) st) : J v M R K t0 cells slots h top pc ls (.ref x :: st) := by
  intro p l e s m args below meth c F H locs A hz hH hS hl
  exact lv_astore_n F.1 F.2.1 d hi hl.has hn rfl (fun A1 h1 => k p l e s m args below meth c F H locs A1 hz hH hS (lvH.of h1 (fun j w hw => ls1_mem j w hw)))
theorem r_astore {i : Nat} {x : Nat} (d : decode M.2.1 pc = .ok (.astore i, 2)) (hn : i < M.2.2.1) (k : J v M R K t0 cells slots h top (pc + 2) (ls1 ls i (.ref x)) st) : J v M R K t0 cells slots h top pc ls (.ref x :: st) := by
  intro p l e s m args below meth c F H locs A hz hH hS hl
  exact lv_astore F.1 F.2.1 d hl.has hn rfl (fun A1 h1 => k p l e s m args below meth c F H locs A1 hz hH hS (lvH.of h1 (fun j w hw => ls1_mem j w hw)))
theorem r_fload_n {k0 : Fin 4} {i : Nat} {x : UInt32} (d : decode M.2.1 pc = .ok (.fload_n k0, 1)) (hi : (k0 : Nat) = i) (hx : ls[i]? = some (some (.float x))) (k : J v M R K t0 cells slots h top (pc + 1) ls (.float x :: st)) : J v M R K t0 cells slots h top pc ls (st) := by
  intro p l e s m args below meth c F H locs A hz hH hS hl
  exact lv_fload_n F.1 F.2.1 d hi (hl.at hx) (k p l e s m args below meth c F H locs A hz hH hS hl)
theorem r_fload {i : Nat} {x : UInt32} (d : decode M.2.1 pc = .ok (.fload i, 2)) (hx : ls[i]? = some (some (.float x))) (k : J v M R K t0 cells slots h top (pc + 2) ls (.float x :: st)) : J v M R K t0 cells slots h top pc ls (st) := by
  intro p l e s m args below meth c F H locs A hz hH hS hl
  exact lv_fload F.1 F.2.1 d (hl.at hx) (k p l e s m args below meth c F H locs A hz hH hS hl)
theorem r_fstore_n {k0 : Fin 4} {i : Nat} {x : UInt32} (d : decode M.2.1 pc = .ok (.fstore_n k0, 1)) (hi : (k0 : Nat) = i) (hn : i < M.2.2.1) (k : J v M R K t0 cells slots h top (pc + 1) (ls1 ls i (.float x)) st) : J v M R K t0 cells slots h top pc ls (.float x :: st) := by
  intro p l e s m args below meth c F H locs A hz hH hS hl
  exact lv_fstore_n F.1 F.2.1 d hi hl.has hn rfl (fun A1 h1 => k p l e s m args below meth c F H locs A1 hz hH hS (lvH.of h1 (fun j w hw => ls1_mem j w hw)))
theorem r_fstore {i : Nat} {x : UInt32} (d : decode M.2.1 pc = .ok (.fstore i, 2)) (hn : i < M.2.2.1) (k : J v M R K t0 cells slots h top (pc + 2) (ls1 ls i (.float x)) st) : J v M R K t0 cells slots h top pc ls (.float x :: st) := by
  intro p l e s m args below meth c F H locs A hz hH hS hl
  exact lv_fstore F.1 F.2.1 d hl.has hn rfl (fun A1 h1 => k p l e s m args below meth c F H locs A1 hz hH hS (lvH.of h1 (fun j w hw => ls1_mem j w hw)))
theorem r_dload_n {k0 : Fin 4} {i : Nat} {x : UInt64} (d : decode M.2.1 pc = .ok (.dload_n k0, 1)) (hi : (k0 : Nat) = i) (hx : ls[i]? = some (some (.double x))) (k : J v M R K t0 cells slots h top (pc + 1) ls (.double x :: st)) : J v M R K t0 cells slots h top pc ls (st) := by
  intro p l e s m args below meth c F H locs A hz hH hS hl
  exact lv_dload_n F.1 F.2.1 d hi (hl.at hx) (k p l e s m args below meth c F H locs A hz hH hS hl)
theorem r_dload {i : Nat} {x : UInt64} (d : decode M.2.1 pc = .ok (.dload i, 2)) (hx : ls[i]? = some (some (.double x))) (k : J v M R K t0 cells slots h top (pc + 2) ls (.double x :: st)) : J v M R K t0 cells slots h top pc ls (st) := by
  intro p l e s m args below meth c F H locs A hz hH hS hl
  exact lv_dload F.1 F.2.1 d (hl.at hx) (k p l e s m args below meth c F H locs A hz hH hS hl)
theorem r_dstore_n {k0 : Fin 4} {i : Nat} {x : UInt64} (d : decode M.2.1 pc = .ok (.dstore_n k0, 1)) (hi : (k0 : Nat) = i) (hn : i + 1 < M.2.2.1) (k : J v M R K t0 cells slots h top (pc + 1) (ls2 ls i (.double x)) st) : J v M R K t0 cells slots h top pc ls (.double x :: st) := by
  intro p l e s m args below meth c F H locs A hz hH hS hl
  exact lv_dstore_n F.1 F.2.1 d hi hl.has hn rfl (fun A1 h1 => k p l e s m args below meth c F H locs A1 hz hH hS (lvH.of h1 (fun j w hw => ls2_mem j w hw)))
theorem r_dstore {i : Nat} {x : UInt64} (d : decode M.2.1 pc = .ok (.dstore i, 2)) (hn : i + 1 < M.2.2.1) (k : J v M R K t0 cells slots h top (pc + 2) (ls2 ls i (.double x)) st) : J v M R K t0 cells slots h top pc ls (.double x :: st) := by
  intro p l e s m args below meth c F H locs A hz hH hS hl
  exact lv_dstore F.1 F.2.1 d hl.has hn rfl (fun A1 h1 => k p l e s m args below meth c F H locs A1 hz hH hS (lvH.of h1 (fun j w hw => ls2_mem j w hw)))
theorem r_iinc {i : Nat} {n : Int} {x y : Int32} (d : decode M.2.1 pc = .ok (.iinc i n, 3)) (hx : ls[i]? = some (some (.int x))) (hv : x + Int32.ofInt n = y) (hn : i < M.2.2.1) (k : J v M R K t0 cells slots h top (pc + 3) (ls1 ls i (.int y)) st) : J v M R K t0 cells slots h top pc ls st := by
  intro p l e s m args below meth c F H locs A hz hH hS hl
  obtain ⟨k9, hk9⟩ := List.getElem?_of_mem ((lvL_mem ls 0 i _).mpr ⟨Nat.zero_le _, hx⟩)
  exact lv_iinc F.1 F.2.1 d hl.has hk9 hv hn rfl (fun A1 h1 => k p l e s m args below meth c F H locs A1 hz hH hS (lvH.of h1 (fun j w hw => ls1_mem j w hw)))
theorem nI_inc (u : Nat) : nI u + Int32.ofInt 1 = nI (u + 1) := (nI_1 u)
theorem r_iincN {i u : Nat} (d : decode M.2.1 pc = .ok (.iinc i 1, 3)) (hx : ls[i]? = some (some (.int (nI u)))) (hn : i < M.2.2.1) (k : J v M R K t0 cells slots h top (pc + 3) (ls1 ls i (.int (nI (u + 1)))) st) : J v M R K t0 cells slots h top pc ls st := r_iinc d hx (nI_inc u) hn k
theorem r_iadd {x y : Int32} (d : decode M.2.1 pc = .ok (.iadd, 1))  (k : J v M R K t0 cells slots h top (pc + 1) ls (.int (x + y) :: st)) : J v M R K t0 cells slots h top pc ls (.int y :: .int x :: st) := by
  intro p l e s m args below meth c F H locs A hz hH hS hl
  exact lv_iadd F.1 F.2.1 d  (k p l e s m args below meth c F H locs A hz hH hS hl)
theorem r_isub {x y : Int32} (d : decode M.2.1 pc = .ok (.isub, 1))  (k : J v M R K t0 cells slots h top (pc + 1) ls (.int (x - y) :: st)) : J v M R K t0 cells slots h top pc ls (.int y :: .int x :: st) := by
  intro p l e s m args below meth c F H locs A hz hH hS hl
  exact lv_isub F.1 F.2.1 d  (k p l e s m args below meth c F H locs A hz hH hS hl)
theorem r_imul {x y : Int32} (d : decode M.2.1 pc = .ok (.imul, 1))  (k : J v M R K t0 cells slots h top (pc + 1) ls (.int (x * y) :: st)) : J v M R K t0 cells slots h top pc ls (.int y :: .int x :: st) := by
  intro p l e s m args below meth c F H locs A hz hH hS hl
  exact lv_imul F.1 F.2.1 d  (k p l e s m args below meth c F H locs A hz hH hS hl)
theorem r_iand {x y : Int32} (d : decode M.2.1 pc = .ok (.iand, 1))  (k : J v M R K t0 cells slots h top (pc + 1) ls (.int (x &&& y) :: st)) : J v M R K t0 cells slots h top pc ls (.int y :: .int x :: st) := by
  intro p l e s m args below meth c F H locs A hz hH hS hl
  exact lv_iand F.1 F.2.1 d  (k p l e s m args below meth c F H locs A hz hH hS hl)
theorem r_ior {x y : Int32} (d : decode M.2.1 pc = .ok (.ior, 1))  (k : J v M R K t0 cells slots h top (pc + 1) ls (.int (x ||| y) :: st)) : J v M R K t0 cells slots h top pc ls (.int y :: .int x :: st) := by
  intro p l e s m args below meth c F H locs A hz hH hS hl
  exact lv_ior F.1 F.2.1 d  (k p l e s m args below meth c F H locs A hz hH hS hl)
theorem r_ixor {x y : Int32} (d : decode M.2.1 pc = .ok (.ixor, 1))  (k : J v M R K t0 cells slots h top (pc + 1) ls (.int (x ^^^ y) :: st)) : J v M R K t0 cells slots h top pc ls (.int y :: .int x :: st) := by
  intro p l e s m args below meth c F H locs A hz hH hS hl
  exact lv_ixor F.1 F.2.1 d  (k p l e s m args below meth c F H locs A hz hH hS hl)
theorem r_ishl {x y : Int32} (d : decode M.2.1 pc = .ok (.ishl, 1))  (k : J v M R K t0 cells slots h top (pc + 1) ls (.int (x <<< (y &&& 31)) :: st)) : J v M R K t0 cells slots h top pc ls (.int y :: .int x :: st) := by
  intro p l e s m args below meth c F H locs A hz hH hS hl
  exact lv_ishl F.1 F.2.1 d  (k p l e s m args below meth c F H locs A hz hH hS hl)
theorem r_ishr {x y : Int32} (d : decode M.2.1 pc = .ok (.ishr, 1))  (k : J v M R K t0 cells slots h top (pc + 1) ls (.int (x >>> (y &&& 31)) :: st)) : J v M R K t0 cells slots h top pc ls (.int y :: .int x :: st) := by
  intro p l e s m args below meth c F H locs A hz hH hS hl
  exact lv_ishr F.1 F.2.1 d  (k p l e s m args below meth c F H locs A hz hH hS hl)
theorem r_idiv {x y : Int32} (d : decode M.2.1 pc = .ok (.idiv, 1)) (hne : ¬ y = 0) (k : J v M R K t0 cells slots h top (pc + 1) ls (.int (x / y) :: st)) : J v M R K t0 cells slots h top pc ls (.int y :: .int x :: st) := by
  intro p l e s m args below meth c F H locs A hz hH hS hl
  exact lv_idiv F.1 F.2.1 d hne (k p l e s m args below meth c F H locs A hz hH hS hl)
theorem r_irem {x y : Int32} (d : decode M.2.1 pc = .ok (.irem, 1)) (hne : ¬ y = 0) (k : J v M R K t0 cells slots h top (pc + 1) ls (.int (x - x / y * y) :: st)) : J v M R K t0 cells slots h top pc ls (.int y :: .int x :: st) := by
  intro p l e s m args below meth c F H locs A hz hH hS hl
  exact lv_irem F.1 F.2.1 d hne (k p l e s m args below meth c F H locs A hz hH hS hl)
theorem r_ladd {x y : Int64} (d : decode M.2.1 pc = .ok (.ladd, 1))  (k : J v M R K t0 cells slots h top (pc + 1) ls (.long (x + y) :: st)) : J v M R K t0 cells slots h top pc ls (.long y :: .long x :: st) := by
  intro p l e s m args below meth c F H locs A hz hH hS hl
  exact lv_ladd F.1 F.2.1 d  (k p l e s m args below meth c F H locs A hz hH hS hl)
theorem r_lsub {x y : Int64} (d : decode M.2.1 pc = .ok (.lsub, 1))  (k : J v M R K t0 cells slots h top (pc + 1) ls (.long (x - y) :: st)) : J v M R K t0 cells slots h top pc ls (.long y :: .long x :: st) := by
  intro p l e s m args below meth c F H locs A hz hH hS hl
  exact lv_lsub F.1 F.2.1 d  (k p l e s m args below meth c F H locs A hz hH hS hl)
theorem r_lmul {x y : Int64} (d : decode M.2.1 pc = .ok (.lmul, 1))  (k : J v M R K t0 cells slots h top (pc + 1) ls (.long (x * y) :: st)) : J v M R K t0 cells slots h top pc ls (.long y :: .long x :: st) := by
  intro p l e s m args below meth c F H locs A hz hH hS hl
  exact lv_lmul F.1 F.2.1 d  (k p l e s m args below meth c F H locs A hz hH hS hl)
theorem r_ldiv {x y : Int64} (d : decode M.2.1 pc = .ok (.ldiv, 1)) (hne : ¬ y = 0) (k : J v M R K t0 cells slots h top (pc + 1) ls (.long (x / y) :: st)) : J v M R K t0 cells slots h top pc ls (.long y :: .long x :: st) := by
  intro p l e s m args below meth c F H locs A hz hH hS hl
  exact lv_ldiv F.1 F.2.1 d hne (k p l e s m args below meth c F H locs A hz hH hS hl)
theorem r_lrem {x y : Int64} (d : decode M.2.1 pc = .ok (.lrem, 1)) (hne : ¬ y = 0) (k : J v M R K t0 cells slots h top (pc + 1) ls (.long (x - x / y * y) :: st)) : J v M R K t0 cells slots h top pc ls (.long y :: .long x :: st) := by
  intro p l e s m args below meth c F H locs A hz hH hS hl
  exact lv_lrem F.1 F.2.1 d hne (k p l e s m args below meth c F H locs A hz hH hS hl)
theorem r_iaddN {a b : Nat} (d : decode M.2.1 pc = .ok (.iadd, 1))  (k : J v M R K t0 cells slots h top (pc + 1) ls (.int (nI (a + b)) :: st)) : J v M R K t0 cells slots h top pc ls (.int (nI b) :: .int (nI a) :: st) := by
  intro p l e s m args below meth c F H locs A hz hH hS hl
  exact lv_iadd F.1 F.2.1 d (by rw [nI_add]; exact k p l e s m args below meth c F H locs A hz hH hS hl)
theorem r_imulN {a b : Nat} (d : decode M.2.1 pc = .ok (.imul, 1))  (k : J v M R K t0 cells slots h top (pc + 1) ls (.int (nI (a * b)) :: st)) : J v M R K t0 cells slots h top pc ls (.int (nI b) :: .int (nI a) :: st) := by
  intro p l e s m args below meth c F H locs A hz hH hS hl
  exact lv_imul F.1 F.2.1 d (by rw [pk_mul]; exact k p l e s m args below meth c F H locs A hz hH hS hl)
theorem r_ineg {x : Int32} (d : decode M.2.1 pc = .ok (.ineg, 1))  (k : J v M R K t0 cells slots h top (pc + 1) ls (.int (-x) :: st)) : J v M R K t0 cells slots h top pc ls (.int x :: st) := by
  intro p l e s m args below meth c F H locs A hz hH hS hl
  exact lv_ineg F.1 F.2.1 d  (k p l e s m args below meth c F H locs A hz hH hS hl)
theorem r_lneg {x : Int64} (d : decode M.2.1 pc = .ok (.lneg, 1))  (k : J v M R K t0 cells slots h top (pc + 1) ls (.long (-x) :: st)) : J v M R K t0 cells slots h top pc ls (.long x :: st) := by
  intro p l e s m args below meth c F H locs A hz hH hS hl
  exact lv_lneg F.1 F.2.1 d  (k p l e s m args below meth c F H locs A hz hH hS hl)
theorem r_i2l {x : Int32} (d : decode M.2.1 pc = .ok (.i2l, 1))  (k : J v M R K t0 cells slots h top (pc + 1) ls (.long x.toInt64 :: st)) : J v M R K t0 cells slots h top pc ls (.int x :: st) := by
  intro p l e s m args below meth c F H locs A hz hH hS hl
  exact lv_i2l F.1 F.2.1 d rfl (k p l e s m args below meth c F H locs A hz hH hS hl)
theorem r_l2i {x : Int64} (d : decode M.2.1 pc = .ok (.l2i, 1))  (k : J v M R K t0 cells slots h top (pc + 1) ls (.int x.toInt32 :: st)) : J v M R K t0 cells slots h top pc ls (.long x :: st) := by
  intro p l e s m args below meth c F H locs A hz hH hS hl
  exact lv_l2i F.1 F.2.1 d rfl (k p l e s m args below meth c F H locs A hz hH hS hl)
theorem r_i2b {x : Int32} (d : decode M.2.1 pc = .ok (.i2b, 1))  (k : J v M R K t0 cells slots h top (pc + 1) ls (.int x.toInt8.toInt32 :: st)) : J v M R K t0 cells slots h top pc ls (.int x :: st) := by
  intro p l e s m args below meth c F H locs A hz hH hS hl
  exact lv_i2b F.1 F.2.1 d rfl (k p l e s m args below meth c F H locs A hz hH hS hl)
theorem r_i2c {x : Int32} (d : decode M.2.1 pc = .ok (.i2c, 1))  (k : J v M R K t0 cells slots h top (pc + 1) ls (.int (x.toUInt32 % 65536).toInt32 :: st)) : J v M R K t0 cells slots h top pc ls (.int x :: st) := by
  intro p l e s m args below meth c F H locs A hz hH hS hl
  exact lv_i2c F.1 F.2.1 d rfl (k p l e s m args below meth c F H locs A hz hH hS hl)
theorem r_i2f {x : Int32} (d : decode M.2.1 pc = .ok (.i2f, 1))  (k : J v M R K t0 cells slots h top (pc + 1) ls (.float (FP.i2f x) :: st)) : J v M R K t0 cells slots h top pc ls (.int x :: st) := by
  intro p l e s m args below meth c F H locs A hz hH hS hl
  exact lv_i2f F.1 F.2.1 d  (k p l e s m args below meth c F H locs A hz hH hS hl)
theorem r_l2f {x : Int64} (d : decode M.2.1 pc = .ok (.l2f, 1))  (k : J v M R K t0 cells slots h top (pc + 1) ls (.float (FP.l2f x) :: st)) : J v M R K t0 cells slots h top pc ls (.long x :: st) := by
  intro p l e s m args below meth c F H locs A hz hH hS hl
  exact lv_l2f F.1 F.2.1 d  (k p l e s m args below meth c F H locs A hz hH hS hl)
theorem r_fadd {x y : UInt32} (d : decode M.2.1 pc = .ok (.fadd, 1)) (hne : vf_n32 (FP.fadd x y)) (k : J v M R K t0 cells slots h top (pc + 1) ls (.float (FP.fadd x y) :: st)) : J v M R K t0 cells slots h top pc ls (.float y :: .float x :: st) := by
  intro p l e s m args below meth c F H locs A hz hH hS hl
  exact lv_fadd F.1 F.2.1 d hne (k p l e s m args below meth c F H locs A hz hH hS hl)
theorem r_fmul {x y : UInt32} (d : decode M.2.1 pc = .ok (.fmul, 1)) (hne : vf_n32 (FP.fmul x y)) (k : J v M R K t0 cells slots h top (pc + 1) ls (.float (FP.fmul x y) :: st)) : J v M R K t0 cells slots h top pc ls (.float y :: .float x :: st) := by
  intro p l e s m args below meth c F H locs A hz hH hS hl
  exact lv_fmul F.1 F.2.1 d hne (k p l e s m args below meth c F H locs A hz hH hS hl)
theorem r_fdiv {x y : UInt32} (d : decode M.2.1 pc = .ok (.fdiv, 1)) (hne : vf_n32 (FP.fdiv x y)) (k : J v M R K t0 cells slots h top (pc + 1) ls (.float (FP.fdiv x y) :: st)) : J v M R K t0 cells slots h top pc ls (.float y :: .float x :: st) := by
  intro p l e s m args below meth c F H locs A hz hH hS hl
  exact lv_fdiv F.1 F.2.1 d hne (k p l e s m args below meth c F H locs A hz hH hS hl)
theorem r_f2d {x : UInt32} (d : decode M.2.1 pc = .ok (.f2d, 1)) (hne : vf_n64 (FP.f2d x)) (k : J v M R K t0 cells slots h top (pc + 1) ls (.double (FP.f2d x) :: st)) : J v M R K t0 cells slots h top pc ls (.float x :: st) := by
  intro p l e s m args below meth c F H locs A hz hH hS hl
  exact lv_f2d F.1 F.2.1 d hne (k p l e s m args below meth c F H locs A hz hH hS hl)
theorem r_lcmp {x y : Int64} (d : decode M.2.1 pc = .ok (.lcmp, 1))  (k : J v M R K t0 cells slots h top (pc + 1) ls (.int (lg_cmp x y) :: st)) : J v M R K t0 cells slots h top pc ls (.long y :: .long x :: st) := by
  intro p l e s m args below meth c F H locs A hz hH hS hl
  exact W.lcmp F.1 F.2.1 d  (k p l e s m args below meth c F H locs A hz hH hS hl)
theorem r_fcmp {x y : UInt32} {op : CmpOp} (d : decode M.2.1 pc = .ok (.fcmp op, 1))  (k : J v M R K t0 cells slots h top (pc + 1) ls (.int (Op.cmpValue (FP.fcmp x y) op) :: st)) : J v M R K t0 cells slots h top pc ls (.float y :: .float x :: st) := by
  intro p l e s m args below meth c F H locs A hz hH hS hl
  exact lv_fcmp F.1 F.2.1 d  (k p l e s m args below meth c F H locs A hz hH hS hl)
theorem r_dcmp {x y : UInt64} {op : CmpOp} (d : decode M.2.1 pc = .ok (.dcmp op, 1))  (k : J v M R K t0 cells slots h top (pc + 1) ls (.int (Op.cmpValue (FP.dcmp x y) op) :: st)) : J v M R K t0 cells slots h top pc ls (.double y :: .double x :: st) := by
  intro p l e s m args below meth c F H locs A hz hH hS hl
  exact lv_dcmp F.1 F.2.1 d  (k p l e s m args below meth c F H locs A hz hH hS hl)
theorem r_dup {x : Value} (d : decode M.2.1 pc = .ok (.dup, 1)) (hx : x.category = 1) (k : J v M R K t0 cells slots h top (pc + 1) ls (x :: x :: st)) : J v M R K t0 cells slots h top pc ls (x :: st) := by
  intro p l e s m args below meth c F H locs A hz hH hS hl
  exact lv_dup F.1 F.2.1 d hx (k p l e s m args below meth c F H locs A hz hH hS hl)
theorem r_pop {x : Value} (d : decode M.2.1 pc = .ok (.pop, 1)) (hx : x.category = 1) (k : J v M R K t0 cells slots h top (pc + 1) ls (st)) : J v M R K t0 cells slots h top pc ls (x :: st) := by
  intro p l e s m args below meth c F H locs A hz hH hS hl
  exact lv_pop F.1 F.2.1 d hx (k p l e s m args below meth c F H locs A hz hH hS hl)
theorem r_dup2_11 {x y : Value} (d : decode M.2.1 pc = .ok (.dup2, 1)) (hx : x.category = 1) (hy : y.category = 1) (k : J v M R K t0 cells slots h top (pc + 1) ls (x :: y :: x :: y :: st)) : J v M R K t0 cells slots h top pc ls (x :: y :: st) := by
  intro p l e s m args below meth c F H locs A hz hH hS hl
  exact lv_dup2_11 F.1 F.2.1 d hx hy (k p l e s m args below meth c F H locs A hz hH hS hl)
theorem r_dup2_2 {x : Value} (d : decode M.2.1 pc = .ok (.dup2, 1)) (hx : x.category = 2) (k : J v M R K t0 cells slots h top (pc + 1) ls (x :: x :: st)) : J v M R K t0 cells slots h top pc ls (x :: st) := by
  intro p l e s m args below meth c F H locs A hz hH hS hl
  exact lv_dup2_2 F.1 F.2.1 d hx (k p l e s m args below meth c F H locs A hz hH hS hl)
theorem r_dup_x1 {x y : Value} (d : decode M.2.1 pc = .ok (.dup_x1, 1)) (hx : x.category = 1) (hy : y.category = 1) (k : J v M R K t0 cells slots h top (pc + 1) ls (x :: y :: x :: st)) : J v M R K t0 cells slots h top pc ls (x :: y :: st) := by
  intro p l e s m args below meth c F H locs A hz hH hS hl
  exact lv_dup_x1 F.1 F.2.1 d hx hy (k p l e s m args below meth c F H locs A hz hH hS hl)
theorem r_if_eq {x : Int32} {off : Int} (tgt : Nat) (d : decode M.2.1 pc = .ok (.ifCond .eq off, 3)) (ht : (pc : Int) + off = (tgt : Int)) (kt : x = 0 → J v M R K t0 cells slots h top tgt ls st) (kf : ¬ x = 0 → J v M R K t0 cells slots h top (pc + 3) ls st) : J v M R K t0 cells slots h top pc ls (.int x :: st) := by
  intro p l e s m args below meth c F H locs A hz hH hS hl
  exact lv_if_eq F.1 F.2.1 d ht (fun q => kt q p l e s m args below meth c F H locs A hz hH hS hl) (fun q => kf q p l e s m args below meth c F H locs A hz hH hS hl)
theorem r_if_ne {x : Int32} {off : Int} (tgt : Nat) (d : decode M.2.1 pc = .ok (.ifCond .ne off, 3)) (ht : (pc : Int) + off = (tgt : Int)) (kt : ¬ x = 0 → J v M R K t0 cells slots h top tgt ls st) (kf : x = 0 → J v M R K t0 cells slots h top (pc + 3) ls st) : J v M R K t0 cells slots h top pc ls (.int x :: st) := by
  intro p l e s m args below meth c F H locs A hz hH hS hl
  exact lv_if_ne F.1 F.2.1 d ht (fun q => kt q p l e s m args below meth c F H locs A hz hH hS hl) (fun q => kf q p l e s m args below meth c F H locs A hz hH hS hl)
theorem r_if_lt {x : Int32} {off : Int} (tgt : Nat) (d : decode M.2.1 pc = .ok (.ifCond .lt off, 3)) (ht : (pc : Int) + off = (tgt : Int)) (kt : x < 0 → J v M R K t0 cells slots h top tgt ls st) (kf : ¬ x < 0 → J v M R K t0 cells slots h top (pc + 3) ls st) : J v M R K t0 cells slots h top pc ls (.int x :: st) := by
  intro p l e s m args below meth c F H locs A hz hH hS hl
  exact lv_if_lt F.1 F.2.1 d ht (fun q => kt q p l e s m args below meth c F H locs A hz hH hS hl) (fun q => kf q p l e s m args below meth c F H locs A hz hH hS hl)
theorem r_if_ge {x : Int32} {off : Int} (tgt : Nat) (d : decode M.2.1 pc = .ok (.ifCond .ge off, 3)) (ht : (pc : Int) + off = (tgt : Int)) (kt : 0 ≤ x → J v M R K t0 cells slots h top tgt ls st) (kf : ¬ 0 ≤ x → J v M R K t0 cells slots h top (pc + 3) ls st) : J v M R K t0 cells slots h top pc ls (.int x :: st) := by
  intro p l e s m args below meth c F H locs A hz hH hS hl
  exact lv_if_ge F.1 F.2.1 d ht (fun q => kt q p l e s m args below meth c F H locs A hz hH hS hl) (fun q => kf q p l e s m args below meth c F H locs A hz hH hS hl)
theorem r_if_gt {x : Int32} {off : Int} (tgt : Nat) (d : decode M.2.1 pc = .ok (.ifCond .gt off, 3)) (ht : (pc : Int) + off = (tgt : Int)) (kt : 0 < x → J v M R K t0 cells slots h top tgt ls st) (kf : ¬ 0 < x → J v M R K t0 cells slots h top (pc + 3) ls st) : J v M R K t0 cells slots h top pc ls (.int x :: st) := by
  intro p l e s m args below meth c F H locs A hz hH hS hl
  exact lv_if_gt F.1 F.2.1 d ht (fun q => kt q p l e s m args below meth c F H locs A hz hH hS hl) (fun q => kf q p l e s m args below meth c F H locs A hz hH hS hl)
theorem r_if_le {x : Int32} {off : Int} (tgt : Nat) (d : decode M.2.1 pc = .ok (.ifCond .le off, 3)) (ht : (pc : Int) + off = (tgt : Int)) (kt : x ≤ 0 → J v M R K t0 cells slots h top tgt ls st) (kf : ¬ x ≤ 0 → J v M R K t0 cells slots h top (pc + 3) ls st) : J v M R K t0 cells slots h top pc ls (.int x :: st) := by
  intro p l e s m args below meth c F H locs A hz hH hS hl
  exact lv_if_le F.1 F.2.1 d ht (fun q => kt q p l e s m args below meth c F H locs A hz hH hS hl) (fun q => kf q p l e s m args below meth c F H locs A hz hH hS hl)
theorem r_icmp_eq {x y : Int32} {off : Int} (tgt : Nat) (d : decode M.2.1 pc = .ok (.if_icmp .eq off, 3)) (ht : (pc : Int) + off = (tgt : Int)) (kt : x = y → J v M R K t0 cells slots h top tgt ls st) (kf : ¬ x = y → J v M R K t0 cells slots h top (pc + 3) ls st) : J v M R K t0 cells slots h top pc ls (.int y :: .int x :: st) := by
  intro p l e s m args below meth c F H locs A hz hH hS hl
  exact lv_icmp_eq F.1 F.2.1 d ht (fun q => kt q p l e s m args below meth c F H locs A hz hH hS hl) (fun q => kf q p l e s m args below meth c F H locs A hz hH hS hl)
theorem r_icmp_ne {x y : Int32} {off : Int} (tgt : Nat) (d : decode M.2.1 pc = .ok (.if_icmp .ne off, 3)) (ht : (pc : Int) + off = (tgt : Int)) (kt : ¬ x = y → J v M R K t0 cells slots h top tgt ls st) (kf : x = y → J v M R K t0 cells slots h top (pc + 3) ls st) : J v M R K t0 cells slots h top pc ls (.int y :: .int x :: st) := by
  intro p l e s m args below meth c F H locs A hz hH hS hl
  exact lv_icmp_ne F.1 F.2.1 d ht (fun q => kt q p l e s m args below meth c F H locs A hz hH hS hl) (fun q => kf q p l e s m args below meth c F H locs A hz hH hS hl)
theorem r_icmp_lt {x y : Int32} {off : Int} (tgt : Nat) (d : decode M.2.1 pc = .ok (.if_icmp .lt off, 3)) (ht : (pc : Int) + off = (tgt : Int)) (kt : x < y → J v M R K t0 cells slots h top tgt ls st) (kf : ¬ x < y → J v M R K t0 cells slots h top (pc + 3) ls st) : J v M R K t0 cells slots h top pc ls (.int y :: .int x :: st) := by
  intro p l e s m args below meth c F H locs A hz hH hS hl
  exact lv_icmp_lt F.1 F.2.1 d ht (fun q => kt q p l e s m args below meth c F H locs A hz hH hS hl) (fun q => kf q p l e s m args below meth c F H locs A hz hH hS hl)
theorem r_icmp_ge {x y : Int32} {off : Int} (tgt : Nat) (d : decode M.2.1 pc = .ok (.if_icmp .ge off, 3)) (ht : (pc : Int) + off = (tgt : Int)) (kt : y ≤ x → J v M R K t0 cells slots h top tgt ls st) (kf : ¬ y ≤ x → J v M R K t0 cells slots h top (pc + 3) ls st) : J v M R K t0 cells slots h top pc ls (.int y :: .int x :: st) := by
  intro p l e s m args below meth c F H locs A hz hH hS hl
  exact lv_icmp_ge F.1 F.2.1 d ht (fun q => kt q p l e s m args below meth c F H locs A hz hH hS hl) (fun q => kf q p l e s m args below meth c F H locs A hz hH hS hl)
theorem r_icmp_gt {x y : Int32} {off : Int} (tgt : Nat) (d : decode M.2.1 pc = .ok (.if_icmp .gt off, 3)) (ht : (pc : Int) + off = (tgt : Int)) (kt : y < x → J v M R K t0 cells slots h top tgt ls st) (kf : ¬ y < x → J v M R K t0 cells slots h top (pc + 3) ls st) : J v M R K t0 cells slots h top pc ls (.int y :: .int x :: st) := by
  intro p l e s m args below meth c F H locs A hz hH hS hl
  exact lv_icmp_gt F.1 F.2.1 d ht (fun q => kt q p l e s m args below meth c F H locs A hz hH hS hl) (fun q => kf q p l e s m args below meth c F H locs A hz hH hS hl)
theorem r_icmp_le {x y : Int32} {off : Int} (tgt : Nat) (d : decode M.2.1 pc = .ok (.if_icmp .le off, 3)) (ht : (pc : Int) + off = (tgt : Int)) (kt : x ≤ y → J v M R K t0 cells slots h top tgt ls st) (kf : ¬ x ≤ y → J v M R K t0 cells slots h top (pc + 3) ls st) : J v M R K t0 cells slots h top pc ls (.int y :: .int x :: st) := by
  intro p l e s m args below meth c F H locs A hz hH hS hl
  exact lv_icmp_le F.1 F.2.1 d ht (fun q => kt q p l e s m args below meth c F H locs A hz hH hS hl) (fun q => kf q p l e s m args below meth c F H locs A hz hH hS hl)
theorem nI_lt_iff {a b : Nat} (ha : a < 2147483648) (hb : b < 2147483648) : nI a < nI b ↔ a < b := nI_ltI ha hb
theorem nI_le_iff {a b : Nat} (ha : a < 2147483648) (hb : b < 2147483648) : nI a ≤ nI b ↔ a ≤ b := nI_leI ha hb
theorem nI_eq_iff {a b : Nat} (ha : a < 2147483648) (hb : b < 2147483648) : nI a = nI b ↔ a = b := nI_eq ha hb
theorem r_icmp_eqN {a b : Nat} {off : Int} (tgt : Nat) (d : decode M.2.1 pc = .ok (.if_icmp .eq off, 3)) (ht : (pc : Int) + off = (tgt : Int)) (ha : a < 2147483648) (hb : b < 2147483648) (kt : a = b → J v M R K t0 cells slots h top tgt ls st) (kf : a ≠ b → J v M R K t0 cells slots h top (pc + 3) ls st) : J v M R K t0 cells slots h top pc ls (.int (nI b) :: .int (nI a) :: st) := by
  exact r_icmp_eq tgt d ht (fun q => kt ((nI_eq_iff ha hb).mp q)) (fun q => kf (fun z => q ((nI_eq_iff ha hb).mpr z)))
theorem r_icmp_neN {a b : Nat} {off : Int} (tgt : Nat) (d : decode M.2.1 pc = .ok (.if_icmp .ne off, 3)) (ht : (pc : Int) + off = (tgt : Int)) (ha : a < 2147483648) (hb : b < 2147483648) (kt : a ≠ b → J v M R K t0 cells slots h top tgt ls st) (kf : a = b → J v M R K t0 cells slots h top (pc + 3) ls st) : J v M R K t0 cells slots h top pc ls (.int (nI b) :: .int (nI a) :: st) := by
  exact r_icmp_ne tgt d ht (fun q => kt (fun z => q ((nI_eq_iff ha hb).mpr z))) (fun q => kf ((nI_eq_iff ha hb).mp (by simpa using q)))
theorem r_icmp_ltN {a b : Nat} {off : Int} (tgt : Nat) (d : decode M.2.1 pc = .ok (.if_icmp .lt off, 3)) (ht : (pc : Int) + off = (tgt : Int)) (ha : a < 2147483648) (hb : b < 2147483648) (kt : a < b → J v M R K t0 cells slots h top tgt ls st) (kf : b ≤ a → J v M R K t0 cells slots h top (pc + 3) ls st) : J v M R K t0 cells slots h top pc ls (.int (nI b) :: .int (nI a) :: st) := by
  exact r_icmp_lt tgt d ht (fun q => kt ((nI_lt_iff ha hb).mp q)) (fun q => kf (Nat.not_lt.mp (fun z => q ((nI_lt_iff ha hb).mpr z))))
theorem r_icmp_geN {a b : Nat} {off : Int} (tgt : Nat) (d : decode M.2.1 pc = .ok (.if_icmp .ge off, 3)) (ht : (pc : Int) + off = (tgt : Int)) (ha : a < 2147483648) (hb : b < 2147483648) (kt : b ≤ a → J v M R K t0 cells slots h top tgt ls st) (kf : a < b → J v M R K t0 cells slots h top (pc + 3) ls st) : J v M R K t0 cells slots h top pc ls (.int (nI b) :: .int (nI a) :: st) := by
  exact r_icmp_ge tgt d ht (fun q => kt ((nI_le_iff hb ha).mp q)) (fun q => kf (Nat.not_le.mp (fun z => q ((nI_le_iff hb ha).mpr z))))
theorem r_icmp_gtN {a b : Nat} {off : Int} (tgt : Nat) (d : decode M.2.1 pc = .ok (.if_icmp .gt off, 3)) (ht : (pc : Int) + off = (tgt : Int)) (ha : a < 2147483648) (hb : b < 2147483648) (kt : b < a → J v M R K t0 cells slots h top tgt ls st) (kf : a ≤ b → J v M R K t0 cells slots h top (pc + 3) ls st) : J v M R K t0 cells slots h top pc ls (.int (nI b) :: .int (nI a) :: st) := by
  exact r_icmp_gt tgt d ht (fun q => kt ((nI_lt_iff hb ha).mp q)) (fun q => kf (Nat.not_lt.mp (fun z => q ((nI_lt_iff hb ha).mpr z))))
theorem r_icmp_leN {a b : Nat} {off : Int} (tgt : Nat) (d : decode M.2.1 pc = .ok (.if_icmp .le off, 3)) (ht : (pc : Int) + off = (tgt : Int)) (ha : a < 2147483648) (hb : b < 2147483648) (kt : a ≤ b → J v M R K t0 cells slots h top tgt ls st) (kf : b < a → J v M R K t0 cells slots h top (pc + 3) ls st) : J v M R K t0 cells slots h top pc ls (.int (nI b) :: .int (nI a) :: st) := by
  exact r_icmp_le tgt d ht (fun q => kt ((nI_le_iff ha hb).mp q)) (fun q => kf (Nat.not_le.mp (fun z => q ((nI_le_iff ha hb).mpr z))))
theorem r_goto {off : Int} (tgt : Nat) (d : decode M.2.1 pc = .ok (.goto off, 3)) (ht : (pc : Int) + off = (tgt : Int)) (k : J v M R K t0 cells slots h top tgt ls st) : J v M R K t0 cells slots h top pc ls st := by
  intro p l e s m args below meth c F H locs A hz hH hS hl
  exact lv_goto F.1 F.2.1 d ht (k p l e s m args below meth c F H locs A hz hH hS hl)
theorem r_swOut {dflt lo hi : Int} {offs : Array Int} {len : Nat} {x : Int32} (tgt : Nat) (d : decode M.2.1 pc = .ok (.tableswitch dflt lo hi offs, len)) (hx : x.toInt < lo ∨ hi < x.toInt) (ht : (pc : Int) + dflt = (tgt : Int)) (k : J v M R K t0 cells slots h top tgt ls st) : J v M R K t0 cells slots h top pc ls (.int x :: st) := by
  intro p l e s m args below meth c F H locs A hz hH hS hl
  exact lv_tableOut F.1 F.2.1 d hx ht (k p l e s m args below meth c F H locs A hz hH hS hl)
theorem r_swIn {dflt lo hi : Int} {offs : Array Int} {len : Nat} {x : Int32} {off : Int} (tgt : Nat) (d : decode M.2.1 pc = .ok (.tableswitch dflt lo hi offs, len)) (h1 : ¬ x.toInt < lo) (h2 : ¬ hi < x.toInt) (ho : offs[(x.toInt - lo).toNat]? = some off) (ht : (pc : Int) + off = (tgt : Int)) (k : J v M R K t0 cells slots h top tgt ls st) : J v M R K t0 cells slots h top pc ls (.int x :: st) := by
  intro p l e s m args below meth c F H locs A hz hH hS hl
  exact lv_tableIn F.1 F.2.1 d h1 h2 ho ht (k p l e s m args below meth c F H locs A hz hH hS hl)
theorem r_ldcI {idx : Nat} {x : Int32} (d : decode M.2.1 pc = .ok (.ldc idx, 2)) (hw : Cond.constant M.1.cls idx x ∈ big) (k : J v M R K t0 cells slots h top (pc + 2) ls (.int x :: st)) : J v M R K t0 cells slots h top pc ls st := by
  intro p l e s m args below meth c F H locs A hz hH hS hl
  exact lv_ldc F.1 F.2.1 F.2.2.2.1 (F.2.2.2.2.1 _ hw) d (k p l e s m args below meth c F H locs A hz hH hS hl)
theorem r_ldcwI {idx : Nat} {x : Int32} (d : decode M.2.1 pc = .ok (.ldc_w idx, 3)) (hw : Cond.constant M.1.cls idx x ∈ big) (k : J v M R K t0 cells slots h top (pc + 3) ls (.int x :: st)) : J v M R K t0 cells slots h top pc ls st := by
  intro p l e s m args below meth c F H locs A hz hH hS hl
  exact lv_ldcw F.1 F.2.1 F.2.2.2.1 (F.2.2.2.2.1 _ hw) d (k p l e s m args below meth c F H locs A hz hH hS hl)
theorem r_ldc2 {idx : Nat} {x : Int64} (d : decode M.2.1 pc = .ok (.ldc2_w idx, 3)) (hw : Cond.constantLong M.1.cls idx x ∈ big) (k : J v M R K t0 cells slots h top (pc + 3) ls (.long x :: st)) : J v M R K t0 cells slots h top pc ls st := by
  intro p l e s m args below meth c F H locs A hz hH hS hl
  exact lv_ldc2 F.1 F.2.1 F.2.2.2.1 (F.2.2.2.2.1 _ hw) d (k p l e s m args below meth c F H locs A hz hH hS hl)
/-- fewer locals known -/
theorem r_sub (ls2 : List (Option Value)) (hs : ∀ (i : Nat) (w : Value), ls2[i]? = some (some w) → ls[i]? = some (some w)) (k : J v M R K t0 cells slots h top pc ls2 st) : J v M R K t0 cells slots h top pc ls st := by
  intro p l e s m args below meth c F H locs A hz hH hS hl
  exact k p l e s m args below meth c F H locs A hz hH hS ⟨hl.1, hl.2.1, fun i w hw => hl.2.2 i w (hs i w hw)⟩
theorem r_lt {a : Nat} {e : va_E} (ha : h a = some e) (k : z0 v ≤ a → a < top → J v M R K t0 cells slots h top pc ls st) : J v M R K t0 cells slots h top pc ls st := by
  intro p l e9 s m args below meth c F H locs A hz hH hS hl
  exact k (hH a e ha).1 (by rw [← hz]; exact hH.lt ha) p l e9 s m args below meth c F H locs A hz hH hS hl
theorem r_widen {c2 s2 : Nat} (h1 : cells ≤ c2) (h2 : slots ≤ s2) (k : J v M R K t0 c2 s2 h top pc ls st) : J v M R K t0 cells slots h top pc ls st := by
  intro p l e s m args below meth c F H locs A hz hH hS hl
  exact W.widen h1 h2 (k p l e s m args below meth c F H locs A hz hH hS hl)
/-- a picture of the heap that says less -/
theorem r_less {h2 : Hp} (hs : ∀ (a : Nat) (e : va_E), h2 a = some e → h a = some e) (k : J v M R K t0 cells slots h2 top pc ls st) : J v M R K t0 cells slots h top pc ls st := by
  intro p l e s m args below meth c F H locs A hz hH hS hl
  exact k p l e s m args below meth c F H locs A hz (fun a x hx => hH a x (hs a x hx)) hS hl
end JR
end
section
/-! ===== J rows: fields, arrays, new cells, calls, ends, throws ===== -/
/-- a class of the worlds, with its tables -/
def Clk (ci : Nat) (C : String) (T : u_T) (N : Nat) (ty : Nat → FieldType) : Prop :=
  vwCl[ci]? = some (C, T, N) ∧ (∀ w ∈ u_ws C T N, w ∈ big) ∧ (∀ k, k < N → parseFieldDescriptor (T k).2.2.1 = some (ty k)) ∧ (∀ a, a < N → ∀ b, b < N → a ≠ b → (T a).2.1 ≠ (T b).2.1)
/-- the pool's place idx of the class own is the field k of the class ci -/
def Gf (own : String) (idx ci k : Nat) : Prop := ∃ (C : String) (T : u_T) (N : Nat) (ty : Nat → FieldType), Clk ci C T N ty ∧ k < N ∧
  (Cond.fieldLink own idx (T k).1 (T k).2.1 (T k).2.2.1 ∈ big ∨ ∃ host, Cond.fieldLinkNest own idx (T k).1 (T k).2.1 (T k).2.2.1 host ∈ lw_tbl)
def Pf (own : String) (idx ci k : Nat) (t : FieldType) : Prop := ∃ (C : String) (T : u_T) (N : Nat) (ty : Nat → FieldType), Clk ci C T N ty ∧ k < N ∧
  (Cond.fieldLink own idx (T k).1 (T k).2.1 (T k).2.2.1 ∈ big ∨ ∃ host, Cond.fieldLinkNest own idx (T k).1 (T k).2.1 (T k).2.2.1 host ∈ lw_tbl) ∧ (T k).2.2.2 = false ∧ parseFieldDescriptor (T k).2.2.1 = some t
def Pff (own : String) (idx ci k : Nat) (t : FieldType) : Prop := ∃ (C : String) (T : u_T) (N : Nat) (ty : Nat → FieldType), Clk ci C T N ty ∧ k < N ∧
  Cond.fieldLink own idx (T k).1 (T k).2.1 (T k).2.2.1 ∈ big ∧ (T k).2.2.2 = true ∧ (T k).1 = own ∧ parseFieldDescriptor (T k).2.2.1 = some t
theorem va_P1 {D : va_G} {cl : List vw_C} {q : Nat × va_E} {H : Heap} (h : va_at D cl q H) : va_P D cl [q] H := by
  intro k x hk
  match k, hk with
  | 0, hk => cases hk; exact h
theorem in_nI {x : Int32} {i n : Nat} (hx : x = nI i) (hn : i < n) (hN : n ≤ 2147483647) : vp_in x n ∧ x.toNatClampNeg = i := by
  subst hx
  exact ⟨vp_in_nI hn (by omega), nI_clamp (by omega)⟩
section JH
variable {v : Ev} {M : Md} {R : Room} {K : List Frame → Array Value → State → State → Prop} {t0 cells slots : Nat} {h : Hp} {top pc : Nat} {ls : List (Option Value)} {st : List Value}
theorem Fx.ht {p : Program} {l : Launch} {s : State} {m : MethodId} {args : Array Value} {meth : Method} {c : Code} (F : Fx v M t0 p l s m args meth c) : ∀ w ∈ big, w.before args s = true := F.2.2.2.2.1
theorem Fx.bs {p : Program} {l : Launch} {s : State} {m : MethodId} {args : Array Value} {meth : Method} {c : Code} (F : Fx v M t0 p l s m args meth c) : Bs v s := F.2.2.2.2.2.2.2.2.1
theorem Fx.nest {p : Program} {l : Launch} {s : State} {m : MethodId} {args : Array Value} {meth : Method} {c : Code} (F : Fx v M t0 p l s m args meth c) {w : Cond} (hw : w ∈ lw_tbl) (hk : nwk w = true) : w.before args s = true := va_Nw.use (nwk_on hk) (F.bs.2.1.1 w hw hk)
theorem Fx.z {p : Program} {l : Launch} {s : State} {m : MethodId} {args : Array Value} {meth : Method} {c : Code} (F : Fx v M t0 p l s m args meth c) : z0 v ≤ s.heap.size := by
  obtain ⟨-, -, -, -, -, -, -, -, -, h1, h2, -⟩ := F
  omega
theorem Fx.old {p : Program} {l : Launch} {s : State} {m : MethodId} {args : Array Value} {meth : Method} {c : Code} (F : Fx v M t0 p l s m args meth c) : Old v s s.heap := F.bs.2.2
theorem r_get {a idx k : Nat} {ci : Nat} {fs : List Value} {w : Value} (d : decode M.2.1 pc = .ok (.getfield idx, 3)) (g : Gf M.1.cls idx ci k) (hh : h a = some (ob ci fs)) (hv : fs[k]? = some w)
    (kk : J v M R K t0 cells slots h top (pc + 3) ls (w :: st)) : J v M R K t0 cells slots h top pc ls (.ref a :: st) := by
  intro p l e s m args below meth c F H locs A hz hH hS hl
  obtain ⟨C, T, N, ty, ⟨hc, hin, -, -⟩, hk, hlk⟩ := g
  have hP := va_P1 (hH a _ hh).2
  rcases hlk with hlk | ⟨host, hlk⟩
  · exact va_get F.1 F.2.1 F.ht hin F.2.2.2.1 F.bs.1 hP 0 rfl hc k hk (F.ht _ hlk) (fun _ q => q) hv d (kk p l e s m args below meth c F H locs A hz hH hS hl)
  · exact va_getN F.1 F.2.1 F.ht hin F.2.2.2.1 F.bs.1 hP 0 rfl hc k hk (F.nest hlk rfl) (fun _ q => q) hv d (kk p l e s m args below meth c F H locs A hz hH hS hl)
theorem r_put {a idx k ci : Nat} {fs : List Value} {w : Value} {t : FieldType} (d : decode M.2.1 pc = .ok (.putfield idx, 3)) (g : Pf M.1.cls idx ci k t) (hh : h a = some (ob ci fs)) (hlen : k < fs.length) (hn : narrow t w = w) (hf : fits t w = true)
    (kk : J v M R K t0 cells slots (hp h a (ob ci (fs.set k w))) top (pc + 3) ls st) : J v M R K t0 cells slots h top pc ls (w :: .ref a :: st) := by
  intro p l e s m args below meth c F H locs A hz hH hS hl
  obtain ⟨C, T, N, ty, ⟨hc, hin, hty, hnm⟩, hk, hlk, hfin, hd⟩ := g
  have hts := F.ht
  have hap := va_apart (own := M.1.cls) hts hin ty hty hnm F.bs.1 hc
  obtain ⟨hz0, r, h1, cell, q1, q2, q3, q4⟩ := hH a _ hh
  have hr : r = (C, T, N) := Option.some.inj (h1.symm.trans hc)
  subst hr
  obtain ⟨hSl, hfc, kC, hkC, hkind⟩ := F.bs.1.1 ci _ hc
  obtain ⟨cf, kf, fi, f, hi, hsl⟩ := hSl k hk
  have hlay := hts _ (hin _ (u_in_lay hk))
  unfold u_lay at hlay
  rw [if_neg (by rw [hfin]; decide)] at hlay
  have hst := (u_facts hfc hkC (u_lays hts hin hk) hi).1
  have h6 := u_store hfc hkC hkind hlay hi hd hn hf
  rcases hlk with hlk | ⟨host, hlk⟩
  · refine W.putK F.1 F.2.1 (f := f) ⟨F.2.2.2.1, hts _ hlk, ⟨_, _, _, hi⟩, hst⟩ (by rw [q2]; exact h6) q1 q3 (by rw [hsl]; exact k2_hasslot (q4 k hk)) rfl rfl d fun H1 e1 e2 e3 => ?_
    rw [hsl] at e1 ⊢
    exact kk p l e s m args below meth c F H1 _ A (e2.trans hz) (hH.set hz0 ⟨_, hc, t_OB.to (V := updV (vp_V fs) k w) ⟨_, e1, q2, q3, t_set q4 hap hk w⟩ (fun j _ => vp_updV_set hlen w j)⟩ e3) (hS.put e2 e3 hz0) hl
  · refine va_WputK F.1 F.2.1 (f := f) F.2.2.2.1 (F.nest hlk rfl) hi hst (by rw [q2]; exact h6) q1 q3 (by rw [hsl]; exact k2_hasslot (q4 k hk)) rfl rfl d fun H1 e1 e2 e3 => ?_
    rw [hsl] at e1 ⊢
    exact kk p l e s m args below meth c F H1 _ A (e2.trans hz) (hH.set hz0 ⟨_, hc, t_OB.to (V := updV (vp_V fs) k w) ⟨_, e1, q2, q3, t_set q4 hap hk w⟩ (fun j _ => vp_updV_set hlen w j)⟩ e3) (hS.put e2 e3 hz0) hl
theorem r_putF {a idx k ci : Nat} {fs : List Value} {w : Value} {t : FieldType} (d : decode M.2.1 pc = .ok (.putfield idx, 3)) (g : Pff M.1.cls idx ci k t) (hini : M.1.name = "<init>") (hh : h a = some (ob ci fs)) (hlen : k < fs.length) (hn : narrow t w = w) (hf : fits t w = true)
    (kk : J v M R K t0 cells slots (hp h a (ob ci (fs.set k w))) top (pc + 3) ls st) : J v M R K t0 cells slots h top pc ls (w :: .ref a :: st) := by
  intro p l e s m args below meth c F H locs A hz hH hS hl
  obtain ⟨C, T, N, ty, ⟨hc, hin, hty, hnm⟩, hk, hlk, hfin, hdecl, hd⟩ := g
  have hts := F.ht
  have hap := va_apart (own := M.1.cls) hts hin ty hty hnm F.bs.1 hc
  obtain ⟨hz0, r, h1, cell, q1, q2, q3, q4⟩ := hH a _ hh
  have hr : r = (C, T, N) := Option.some.inj (h1.symm.trans hc)
  subst hr
  obtain ⟨hSl, hfc, kC, hkC, hkind⟩ := F.bs.1.1 ci _ hc
  obtain ⟨cf, kf, fi, f, hi, hsl⟩ := hSl k hk
  have hlay := hts _ (hin _ (u_in_lay hk))
  unfold u_lay at hlay
  rw [if_pos hfin] at hlay
  have hst := (u_facts hfc hkC (u_lays hts hin hk) hi).1
  have hcf : m.cls = cf := by
    obtain ⟨_, _, c', _, _, _, -, -, hf', -, -, -, hown2, -⟩ := Cond.laysFinal_spec hlay
    have e1 : c' = cf := by have := hi.symm.trans hf'; simp at this; exact this.1.symm
    rw [hdecl] at hown2
    rw [← e1]; exact Option.some.inj (F.2.2.2.1.symm.trans hown2)
  have hnam : meth.name = "<init>" := by
    obtain ⟨-, -, -, -, -, -, -, -, -, -, -, h1, -⟩ := F
    rw [h1, hini]
  have h6 := u_fits hfc hkC hkind (Or.inr hlay) hi hd hn hf
  refine W.putFinK F.1 F.2.1 F.2.2.2.1 (hts _ hlk) hi hst hcf hnam (by rw [q2]; exact h6) q1 q3 (by rw [hsl]; exact k2_hasslot (q4 k hk)) rfl rfl d fun H1 e1 e2 e3 => ?_
  rw [hsl] at e1 ⊢
  exact kk p l e s m args below meth c F H1 _ A (e2.trans hz) (hH.set hz0 ⟨_, hc, t_OB.to (V := updV (vp_V fs) k w) ⟨_, e1, q2, q3, t_set q4 hap hk w⟩ (fun j _ => vp_updV_set hlen w j)⟩ e3) (hS.put e2 e3 hz0) hl
theorem r_iald {a n : Nat} {f : Nat → Int32} {x : Int32} (d : decode M.2.1 pc = .ok (.iaload, 1)) (hh : h a = some (aI v n f)) (i : Nat) (hx : x = nI i) (hn : i < n) (hN : n ≤ 2147483647) (kk : J v M R K t0 cells slots h top (pc + 1) ls (.int (f i) :: st)) : J v M R K t0 cells slots h top pc ls (.int x :: .ref a :: st) := by
  intro p l e s m args below meth c F H locs A hz hH hS hl
  obtain ⟨h1, h2⟩ := in_nI hx hn hN
  exact va_iald F.1 F.2.1 F.bs.1 (va_P1 (hH a _ hh).2) 0 0 rfl rfl h1 d (by rw [h2]; exact kk p l e s m args below meth c F H locs A hz hH hS hl)
theorem r_lald {a n : Nat} {f : Nat → Int64} {x : Int32} (d : decode M.2.1 pc = .ok (.laload, 1)) (hh : h a = some (aJ v n f)) (i : Nat) (hx : x = nI i) (hn : i < n) (hN : n ≤ 2147483647) (kk : J v M R K t0 cells slots h top (pc + 1) ls (.long (f i) :: st)) : J v M R K t0 cells slots h top pc ls (.int x :: .ref a :: st) := by
  intro p l e s m args below meth c F H locs A hz hH hS hl
  obtain ⟨h1, h2⟩ := in_nI hx hn hN
  exact va_lald F.1 F.2.1 F.bs.1 (va_P1 (hH a _ hh).2) 0 1 rfl rfl h1 d (by rw [h2]; exact kk p l e s m args below meth c F H locs A hz hH hS hl)
theorem r_fald {a n : Nat} {f : Nat → UInt32} {x : Int32} (d : decode M.2.1 pc = .ok (.faload, 1)) (hh : h a = some (aF v n f)) (i : Nat) (hx : x = nI i) (hn : i < n) (hN : n ≤ 2147483647) (kk : J v M R K t0 cells slots h top (pc + 1) ls (.float (f i) :: st)) : J v M R K t0 cells slots h top pc ls (.int x :: .ref a :: st) := by
  intro p l e s m args below meth c F H locs A hz hH hS hl
  obtain ⟨h1, h2⟩ := in_nI hx hn hN
  exact va_fald F.1 F.2.1 F.bs.1 (va_P1 (hH a _ hh).2) 0 2 rfl rfl h1 d (by rw [h2]; exact kk p l e s m args below meth c F H locs A hz hH hS hl)
theorem r_dald {a n : Nat} {f : Nat → UInt64} {x : Int32} (d : decode M.2.1 pc = .ok (.daload, 1)) (hh : h a = some (aD v n f)) (i : Nat) (hx : x = nI i) (hn : i < n) (hN : n ≤ 2147483647) (kk : J v M R K t0 cells slots h top (pc + 1) ls (.double (f i) :: st)) : J v M R K t0 cells slots h top pc ls (.int x :: .ref a :: st) := by
  intro p l e s m args below meth c F H locs A hz hH hS hl
  obtain ⟨h1, h2⟩ := in_nI hx hn hN
  exact va_dald F.1 F.2.1 F.bs.1 (va_P1 (hH a _ hh).2) 0 4 rfl rfl h1 d (by rw [h2]; exact kk p l e s m args below meth c F H locs A hz hH hS hl)
theorem r_bald {a n : Nat} {f : Nat → Int32} {x : Int32} (d : decode M.2.1 pc = .ok (.baload, 1)) (hh : h a = some (aB v n f)) (i : Nat) (hx : x = nI i) (hn : i < n) (hN : n ≤ 2147483647) (kk : J v M R K t0 cells slots h top (pc + 1) ls (.int (f i) :: st)) : J v M R K t0 cells slots h top pc ls (.int x :: .ref a :: st) := by
  intro p l e s m args below meth c F H locs A hz hH hS hl
  obtain ⟨h1, h2⟩ := in_nI hx hn hN
  exact va_bald F.1 F.2.1 F.bs.1 (va_P1 (hH a _ hh).2) 0 3 rfl rfl h1 d (by rw [h2]; exact kk p l e s m args below meth c F H locs A hz hH hS hl)
theorem r_iast {a n : Nat} {f : Nat → Int32} {x : Int32} {w : Int32} (d : decode M.2.1 pc = .ok (.iastore, 1)) (hh : h a = some (aI v n f)) (i : Nat) (hx : x = nI i) (hn : i < n) (hN : n ≤ 2147483647) (kk : J v M R K t0 cells slots (hp h a (aI v n (upd f i (w)))) top (pc + 1) ls st) : J v M R K t0 cells slots h top pc ls (.int w :: .int x :: .ref a :: st) := by
  intro p l e s m args below meth c F H locs A hz hH hS hl
  obtain ⟨h1, h2⟩ := in_nI hx hn hN
  obtain ⟨hz0, hat⟩ := hH a _ hh
  refine W.iast F.1 F.2.1 (show H[a]? = some (arrV (cA v 0) n (fun j => .int (f j))) from hat) ((F.bs.1.2 0 _ rfl).1 n (fun j => .int (f j))) (fun q => by cases q) (by rw [arrV_size]; exact h1) rfl rfl d fun H1 e1 z1 oq => ?_
  refine kk p l e s m args below meth c F H1 _ A (z1.trans hz) (hH.set hz0 ?_ oq) (hS.put z1 oq hz0) hl
  show H1[a]? = some (arrV (cA v 0) n (fun j => .int (upd f i (w) j)))
  rw [e1, arrV_store, h2]
  congr 2
  funext q
  by_cases hq : q = i
  · subst hq
    simp [updV, upd]
  · simp [updV, upd, hq]
theorem r_last {a n : Nat} {f : Nat → Int64} {x : Int32} {w : Int64} (d : decode M.2.1 pc = .ok (.lastore, 1)) (hh : h a = some (aJ v n f)) (i : Nat) (hx : x = nI i) (hn : i < n) (hN : n ≤ 2147483647) (kk : J v M R K t0 cells slots (hp h a (aJ v n (vp_updL f i (w)))) top (pc + 1) ls st) : J v M R K t0 cells slots h top pc ls (.long w :: .int x :: .ref a :: st) := by
  intro p l e s m args below meth c F H locs A hz hH hS hl
  obtain ⟨h1, h2⟩ := in_nI hx hn hN
  obtain ⟨hz0, hat⟩ := hH a _ hh
  refine W.last F.1 F.2.1 (show H[a]? = some (arrV (cA v 1) n (fun j => .long (f j))) from hat) ((F.bs.1.2 1 _ rfl).1 n (fun j => .long (f j))) (fun q => by cases q) (by rw [arrV_size]; exact h1) rfl rfl d fun H1 e1 z1 oq => ?_
  refine kk p l e s m args below meth c F H1 _ A (z1.trans hz) (hH.set hz0 ?_ oq) (hS.put z1 oq hz0) hl
  show H1[a]? = some (arrV (cA v 1) n (fun j => .long (vp_updL f i (w) j)))
  rw [e1, arrV_store, h2]
  congr 2
  funext q
  by_cases hq : q = i
  · subst hq
    simp [updV, vp_updL]
  · simp [updV, vp_updL, hq]
theorem r_fast {a n : Nat} {f : Nat → UInt32} {x : Int32} {w : UInt32} (d : decode M.2.1 pc = .ok (.fastore, 1)) (hh : h a = some (aF v n f)) (i : Nat) (hx : x = nI i) (hn : i < n) (hN : n ≤ 2147483647) (kk : J v M R K t0 cells slots (hp h a (aF v n (vf_upd f i (w)))) top (pc + 1) ls st) : J v M R K t0 cells slots h top pc ls (.float w :: .int x :: .ref a :: st) := by
  intro p l e s m args below meth c F H locs A hz hH hS hl
  obtain ⟨h1, h2⟩ := in_nI hx hn hN
  obtain ⟨hz0, hat⟩ := hH a _ hh
  refine W.fast F.1 F.2.1 (show H[a]? = some (arrV (cA v 2) n (fun j => .float (f j))) from hat) ((F.bs.1.2 2 _ rfl).1 n (fun j => .float (f j))) (fun q => by cases q) (by rw [arrV_size]; exact h1) rfl rfl d fun H1 e1 z1 oq => ?_
  refine kk p l e s m args below meth c F H1 _ A (z1.trans hz) (hH.set hz0 ?_ oq) (hS.put z1 oq hz0) hl
  show H1[a]? = some (arrV (cA v 2) n (fun j => .float (vf_upd f i (w) j)))
  rw [e1, arrV_store, h2]
  congr 2
  funext q
  by_cases hq : q = i
  · subst hq
    simp [updV, vf_upd]
  · simp [updV, vf_upd, hq]
theorem r_dast {a n : Nat} {f : Nat → UInt64} {x : Int32} {w : UInt64} (d : decode M.2.1 pc = .ok (.dastore, 1)) (hh : h a = some (aD v n f)) (i : Nat) (hx : x = nI i) (hn : i < n) (hN : n ≤ 2147483647) (kk : J v M R K t0 cells slots (hp h a (aD v n (vf_upd f i (w)))) top (pc + 1) ls st) : J v M R K t0 cells slots h top pc ls (.double w :: .int x :: .ref a :: st) := by
  intro p l e s m args below meth c F H locs A hz hH hS hl
  obtain ⟨h1, h2⟩ := in_nI hx hn hN
  obtain ⟨hz0, hat⟩ := hH a _ hh
  refine W.dast F.1 F.2.1 (show H[a]? = some (arrV (cA v 4) n (fun j => .double (f j))) from hat) ((F.bs.1.2 4 _ rfl).1 n (fun j => .double (f j))) (fun q => by cases q) (by rw [arrV_size]; exact h1) rfl rfl d fun H1 e1 z1 oq => ?_
  refine kk p l e s m args below meth c F H1 _ A (z1.trans hz) (hH.set hz0 ?_ oq) (hS.put z1 oq hz0) hl
  show H1[a]? = some (arrV (cA v 4) n (fun j => .double (vf_upd f i (w) j)))
  rw [e1, arrV_store, h2]
  congr 2
  funext q
  by_cases hq : q = i
  · subst hq
    simp [updV, vf_upd]
  · simp [updV, vf_upd, hq]
theorem r_bast {a n : Nat} {f : Nat → Int32} {x : Int32} {w : Int32} (d : decode M.2.1 pc = .ok (.bastore, 1)) (hh : h a = some (aB v n f)) (i : Nat) (hx : x = nI i) (hn : i < n) (hN : n ≤ 2147483647) (kk : J v M R K t0 cells slots (hp h a (aB v n (upd f i (vp_nar .byte w)))) top (pc + 1) ls st) : J v M R K t0 cells slots h top pc ls (.int w :: .int x :: .ref a :: st) := by
  intro p l e s m args below meth c F H locs A hz hH hS hl
  obtain ⟨h1, h2⟩ := in_nI hx hn hN
  obtain ⟨hz0, hat⟩ := hH a _ hh
  refine W.bast F.1 F.2.1 (show H[a]? = some (arrV (cA v 3) n (fun j => .int (f j))) from hat) ((F.bs.1.2 3 _ rfl).1 n (fun j => .int (f j))) (fun q => by cases q) (by rw [arrV_size]; exact h1) rfl rfl d fun H1 e1 z1 oq => ?_
  refine kk p l e s m args below meth c F H1 _ A (z1.trans hz) (hH.set hz0 ?_ oq) (hS.put z1 oq hz0) hl
  show H1[a]? = some (arrV (cA v 3) n (fun j => .int (upd f i (vp_nar .byte w) j)))
  rw [e1, arrV_store, h2]
  congr 2
  funext q
  by_cases hq : q = i
  · subst hq
    simp [updV, upd, vp_nar]
    try rfl
  · simp [updV, upd, hq]
theorem r_alenI {a n : Nat} {f : Nat → Int32} (d : decode M.2.1 pc = .ok (.arraylength, 1)) (hh : h a = some (aI v n f)) (kk : J v M R K t0 cells slots h top (pc + 1) ls (.int (nI n) :: st)) : J v M R K t0 cells slots h top pc ls (.ref a :: st) := by
  intro p l e s m args below meth c F H locs A hz hH hS hl
  exact va_alen F.1 F.2.1 F.bs.1 (va_P1 (hH a _ hh).2) 0 0 rfl rfl rfl d (kk p l e s m args below meth c F H locs A hz hH hS hl)
theorem r_alenJ {a n : Nat} {f : Nat → Int64} (d : decode M.2.1 pc = .ok (.arraylength, 1)) (hh : h a = some (aJ v n f)) (kk : J v M R K t0 cells slots h top (pc + 1) ls (.int (nI n) :: st)) : J v M R K t0 cells slots h top pc ls (.ref a :: st) := by
  intro p l e s m args below meth c F H locs A hz hH hS hl
  exact va_alen F.1 F.2.1 F.bs.1 (va_P1 (hH a _ hh).2) 0 1 rfl rfl rfl d (kk p l e s m args below meth c F H locs A hz hH hS hl)
theorem r_alenB {a n : Nat} {f : Nat → Int32} (d : decode M.2.1 pc = .ok (.arraylength, 1)) (hh : h a = some (aB v n f)) (kk : J v M R K t0 cells slots h top (pc + 1) ls (.int (nI n) :: st)) : J v M R K t0 cells slots h top pc ls (.ref a :: st) := by
  intro p l e s m args below meth c F H locs A hz hH hS hl
  exact va_alen F.1 F.2.1 F.bs.1 (va_P1 (hH a _ hh).2) 0 3 rfl rfl rfl d (kk p l e s m args below meth c F H locs A hz hH hS hl)
theorem r_iald1 {x : Int32} (d : decode M.2.1 pc = .ok (.iaload, 1)) (hx : x = nI 0) (kk : J v M R K t0 cells slots h top (pc + 1) ls (.int 1 :: st)) : J v M R K t0 cells slots h top pc ls (.int x :: .ref (oA v 0) :: st) := by
  intro p l e s m args below meth c F H locs A hz hH hS hl
  obtain ⟨h1, h2⟩ := in_nI (n := 1) hx (by omega) (by omega)
  exact va_ti F.1 F.2.1 F.old.2.1 hS h1 rfl d (kk p l e s m args below meth c F H locs A hz hH hS hl)
theorem r_alen1 (d : decode M.2.1 pc = .ok (.arraylength, 1)) (kk : J v M R K t0 cells slots h top (pc + 1) ls (.int (nI 1) :: st)) : J v M R K t0 cells slots h top pc ls (.ref (oA v 0) :: st) := by
  intro p l e s m args below meth c F H locs A hz hH hS hl
  exact va_tlen F.1 F.2.1 F.old.2.1 hS rfl d (kk p l e s m args below meth c F H locs A hz hH hS hl)
theorem r_getCost {idx : Nat} {host : String} (d : decode M.2.1 pc = .ok (.getstatic idx, 3)) (hw : Cond.fieldLinkNest M.1.cls idx "RandomWalks" "COST_ONE" "[I" host ∈ lw_tbl) (kk : J v M R K t0 cells slots h top (pc + 3) ls (.ref (oA v 0) :: st)) : J v M R K t0 cells slots h top pc ls st := by
  intro p l e s m args below meth c F H locs A hz hH hS hl
  exact va_getsN F.1 F.2.1 F.old.1 hS F.2.2.2.1 (F.nest hw rfl) (fun _ q => q) d (kk p l e s m args below meth c F H locs A hz hH hS hl)
theorem r_newaI {x : Int32} (n : Nat) (d : decode M.2.1 pc = .ok (.newarray .int, 2)) (hx : x = nI n) (hn : n ≤ 65536) (hw : Cond.arrayClass .int ∈ big) (hc : cells + 1 ≤ R.cells) (hs : slots + n ≤ R.slots)
    (kk : h top = none → J v M R K t0 (cells + 1) (slots + n) (hp h top (aI v n (fun _ => 0))) (top + 1) (pc + 2) ls (.ref top :: st)) : J v M R K t0 cells slots h top pc ls (.int x :: st) := by
  intro p l e s m args below meth c F H locs A hz hH hS hl
  subst hz
  have hfr : h H.size = none := by
    cases q : h H.size with
    | none => rfl
    | some e9 => exact absurd (hH.lt q) (Nat.lt_irrefl _)
  have h0 : z0 v ≤ H.size := Nat.le_trans F.z hS.1
  refine va_newaK F.1 F.2.1 (atype := .int) (F.ht _ hw) rfl d rfl (by rw [hx]; exact nI_pos (by omega)) (N := n) (by rw [hx]; exact nI_clamp (by omega)) (by show n * 4 ≤ 536870912; omega) hc hs rfl fun H1 cA1 e1 z1 o1 hAr hNm => ?_
  have hcA : cA1 = cA v 0 := Option.some.inj (hNm.symm.trans (F.bs.1.2 0 _ rfl).2)
  subst hcA
  exact kk hfr p l e s m args below meth c F H1 locs A (by omega) (hH.new h0 (show H1[H.size]? = some (arrV (cA v 0) n (fun _ => defaultValue .int)) from e1) o1) ⟨Nat.le_trans hS.1 (by omega), fun x h1 h2 => (o1 x (Nat.lt_of_lt_of_le h1 hS.1)).trans (hS.2.1 x h1 h2), hS.2.2⟩ hl
theorem r_newaJ {x : Int32} (n : Nat) (d : decode M.2.1 pc = .ok (.newarray .long, 2)) (hx : x = nI n) (hn : n ≤ 65536) (hw : Cond.arrayClass .long ∈ big) (hc : cells + 1 ≤ R.cells) (hs : slots + n ≤ R.slots)
    (kk : h top = none → J v M R K t0 (cells + 1) (slots + n) (hp h top (aJ v n (fun _ => 0))) (top + 1) (pc + 2) ls (.ref top :: st)) : J v M R K t0 cells slots h top pc ls (.int x :: st) := by
  intro p l e s m args below meth c F H locs A hz hH hS hl
  subst hz
  have hfr : h H.size = none := by
    cases q : h H.size with
    | none => rfl
    | some e9 => exact absurd (hH.lt q) (Nat.lt_irrefl _)
  have h0 : z0 v ≤ H.size := Nat.le_trans F.z hS.1
  refine va_newaK F.1 F.2.1 (atype := .long) (F.ht _ hw) rfl d rfl (by rw [hx]; exact nI_pos (by omega)) (N := n) (by rw [hx]; exact nI_clamp (by omega)) (by show n * 8 ≤ 536870912; omega) hc hs rfl fun H1 cA1 e1 z1 o1 hAr hNm => ?_
  have hcA : cA1 = cA v 1 := Option.some.inj (hNm.symm.trans (F.bs.1.2 1 _ rfl).2)
  subst hcA
  exact kk hfr p l e s m args below meth c F H1 locs A (by omega) (hH.new h0 (show H1[H.size]? = some (arrV (cA v 1) n (fun _ => defaultValue .long)) from e1) o1) ⟨Nat.le_trans hS.1 (by omega), fun x h1 h2 => (o1 x (Nat.lt_of_lt_of_le h1 hS.1)).trans (hS.2.1 x h1 h2), hS.2.2⟩ hl
theorem r_newaF {x : Int32} (n : Nat) (d : decode M.2.1 pc = .ok (.newarray .float, 2)) (hx : x = nI n) (hn : n ≤ 65536) (hw : Cond.arrayClass .float ∈ big) (hc : cells + 1 ≤ R.cells) (hs : slots + n ≤ R.slots)
    (kk : h top = none → J v M R K t0 (cells + 1) (slots + n) (hp h top (aF v n (fun _ => 0))) (top + 1) (pc + 2) ls (.ref top :: st)) : J v M R K t0 cells slots h top pc ls (.int x :: st) := by
  intro p l e s m args below meth c F H locs A hz hH hS hl
  subst hz
  have hfr : h H.size = none := by
    cases q : h H.size with
    | none => rfl
    | some e9 => exact absurd (hH.lt q) (Nat.lt_irrefl _)
  have h0 : z0 v ≤ H.size := Nat.le_trans F.z hS.1
  refine va_newaK F.1 F.2.1 (atype := .float) (F.ht _ hw) rfl d rfl (by rw [hx]; exact nI_pos (by omega)) (N := n) (by rw [hx]; exact nI_clamp (by omega)) (by show n * 4 ≤ 536870912; omega) hc hs rfl fun H1 cA1 e1 z1 o1 hAr hNm => ?_
  have hcA : cA1 = cA v 2 := Option.some.inj (hNm.symm.trans (F.bs.1.2 2 _ rfl).2)
  subst hcA
  exact kk hfr p l e s m args below meth c F H1 locs A (by omega) (hH.new h0 (show H1[H.size]? = some (arrV (cA v 2) n (fun _ => defaultValue .float)) from e1) o1) ⟨Nat.le_trans hS.1 (by omega), fun x h1 h2 => (o1 x (Nat.lt_of_lt_of_le h1 hS.1)).trans (hS.2.1 x h1 h2), hS.2.2⟩ hl
theorem r_newaB {x : Int32} (n : Nat) (d : decode M.2.1 pc = .ok (.newarray .byte, 2)) (hx : x = nI n) (hn : n ≤ 65536) (hw : Cond.arrayClass .byte ∈ big) (hc : cells + 1 ≤ R.cells) (hs : slots + n ≤ R.slots)
    (kk : h top = none → J v M R K t0 (cells + 1) (slots + n) (hp h top (aB v n (fun _ => 0))) (top + 1) (pc + 2) ls (.ref top :: st)) : J v M R K t0 cells slots h top pc ls (.int x :: st) := by
  intro p l e s m args below meth c F H locs A hz hH hS hl
  subst hz
  have hfr : h H.size = none := by
    cases q : h H.size with
    | none => rfl
    | some e9 => exact absurd (hH.lt q) (Nat.lt_irrefl _)
  have h0 : z0 v ≤ H.size := Nat.le_trans F.z hS.1
  refine va_newaK F.1 F.2.1 (atype := .byte) (F.ht _ hw) rfl d rfl (by rw [hx]; exact nI_pos (by omega)) (N := n) (by rw [hx]; exact nI_clamp (by omega)) (by show n * 1 ≤ 536870912; omega) hc hs rfl fun H1 cA1 e1 z1 o1 hAr hNm => ?_
  have hcA : cA1 = cA v 3 := Option.some.inj (hNm.symm.trans (F.bs.1.2 3 _ rfl).2)
  subst hcA
  exact kk hfr p l e s m args below meth c F H1 locs A (by omega) (hH.new h0 (show H1[H.size]? = some (arrV (cA v 3) n (fun _ => defaultValue .byte)) from e1) o1) ⟨Nat.le_trans hS.1 (by omega), fun x h1 h2 => (o1 x (Nat.lt_of_lt_of_le h1 hS.1)).trans (hS.2.1 x h1 h2), hS.2.2⟩ hl
theorem r_newaD {x : Int32} (n : Nat) (d : decode M.2.1 pc = .ok (.newarray .double, 2)) (hx : x = nI n) (hn : n ≤ 65536) (hw : Cond.arrayClass .double ∈ big) (hc : cells + 1 ≤ R.cells) (hs : slots + n ≤ R.slots)
    (kk : h top = none → J v M R K t0 (cells + 1) (slots + n) (hp h top (aD v n (fun _ => 0))) (top + 1) (pc + 2) ls (.ref top :: st)) : J v M R K t0 cells slots h top pc ls (.int x :: st) := by
  intro p l e s m args below meth c F H locs A hz hH hS hl
  subst hz
  have hfr : h H.size = none := by
    cases q : h H.size with
    | none => rfl
    | some e9 => exact absurd (hH.lt q) (Nat.lt_irrefl _)
  have h0 : z0 v ≤ H.size := Nat.le_trans F.z hS.1
  refine va_newaK F.1 F.2.1 (atype := .double) (F.ht _ hw) rfl d rfl (by rw [hx]; exact nI_pos (by omega)) (N := n) (by rw [hx]; exact nI_clamp (by omega)) (by show n * 8 ≤ 536870912; omega) hc hs rfl fun H1 cA1 e1 z1 o1 hAr hNm => ?_
  have hcA : cA1 = cA v 4 := Option.some.inj (hNm.symm.trans (F.bs.1.2 4 _ rfl).2)
  subst hcA
  exact kk hfr p l e s m args below meth c F H1 locs A (by omega) (hH.new h0 (show H1[H.size]? = some (arrV (cA v 4) n (fun _ => defaultValue .double)) from e1) o1) ⟨Nat.le_trans hS.1 (by omega), fun x h1 h2 => (o1 x (Nat.lt_of_lt_of_le h1 hS.1)).trans (hS.2.1 x h1 h2), hS.2.2⟩ hl
theorem r_anewG {x : Int32} {idx : Nat} (n : Nat) (d : decode M.2.1 pc = .ok (.anewarray idx, 3)) (hx : x = nI n) (hn : n ≤ 65536) (hw : Cond.classLink M.1.cls idx "RandomWalks$Graph" ∈ big) (hc : cells + 1 ≤ R.cells) (hs : slots + n ≤ R.slots)
    (kk : h top = none → J v M R K t0 (cells + 1) (slots + n) (hp h top (aG v n (fun _ => none))) (top + 1) (pc + 3) ls (.ref top :: st)) : J v M R K t0 cells slots h top pc ls (.int x :: st) := by
  intro p l e s m args below meth c F H locs A hz hH hS hl
  subst hz
  have hfr : h H.size = none := by
    cases q : h H.size with
    | none => rfl
    | some e9 => exact absurd (hH.lt q) (Nat.lt_irrefl _)
  have h0 : z0 v ≤ H.size := Nat.le_trans F.z hS.1
  have hcl : x.toNatClampNeg = n := by rw [hx]; exact nI_clamp (by omega)
  refine W.anew F.1 F.2.1 F.2.2.2.1 (F.ht _ hw) (va_AO.use F.bs.2.1.2.2.2) rfl d rfl (by rw [hx]; exact nI_pos (by omega)) (by rw [hcl]; omega) hc (by rw [hcl]; exact hs) fun cA1 kA comp f1 f2 f3 f4 => ?_
  rw [hcl]
  generalize hH1 : H.push ({ cls := cA1, slots := Array.replicate n .null, vm := .none } : Cell) = H1
  have z1 : H1.size = H.size + 1 := by rw [← hH1, Array.size_push]
  have e1 : H1[H.size]? = some (arrV cA1 n (fun _ => .null)) := by rw [← hH1, Array.getElem?_push_size, ← arrV_new]
  have o1 : ∀ q : Nat, q < H.size → H1[q]? = H[q]? := fun q hq => by rw [← hH1, Array.getElem?_push, if_neg (Nat.ne_of_lt hq)]
  have hcA : cA1 = cA v 5 := by
    obtain ⟨kA2, comp2, g1, g2, g3, g4⟩ := (F.bs.1.2 5 _ rfl).2
    exact Option.some.inj (f1.symm.trans g4)
  subst hcA
  exact kk hfr p l e s m args below meth c F H1 locs A (by omega) (hH.new h0 (show H1[H.size]? = some (arrV (cA v 5) n (fun _ => .null)) from e1) o1) ⟨Nat.le_trans hS.1 (by omega), fun x h1 h2 => (o1 x (Nat.lt_of_lt_of_le h1 hS.1)).trans (hS.2.1 x h1 h2), hS.2.2⟩ hl
/-- a new object of the class ci: its words -/
def Nw (own : String) (idx ci : Nat) (N : Nat) (fs : List Value) : Prop := ∃ (C : String) (T : u_T) (ty : Nat → FieldType), Clk ci C T N ty ∧ Cond.classLink own idx C ∈ big ∧ Cond.instantiable C N ∈ big ∧ Cond.initialized C ∈ big ∧ ∀ j, j < N → defaultValue (ty j) = vp_V fs j
theorem r_new {idx ci N : Nat} {fs : List Value} (d : decode M.2.1 pc = .ok (.new idx, 3)) (g : Nw M.1.cls idx ci N fs) (hc : cells + 1 ≤ R.cells) (hs : slots + N ≤ R.slots)
    (kk : h top = none → J v M R K t0 (cells + 1) (slots + N) (hp h top (ob ci fs)) (top + 1) (pc + 3) ls (.ref top :: st)) : J v M R K t0 cells slots h top pc ls st := by
  intro p l e s m args below meth c F H locs A hz hH hS hl
  subst hz
  have hfr : h H.size = none := by
    cases q : h H.size with
    | none => rfl
    | some e9 => exact absurd (hH.lt q) (Nat.lt_irrefl _)
  have h0 : z0 v ≤ H.size := Nat.le_trans F.z hS.1
  obtain ⟨C, T, ty, ⟨hci, hin, hty, -⟩, w1, w2, w3, hfs⟩ := g
  have hKn := F.bs.1.1 ci _ hci
  refine W.newcK F.1 F.2.1 F.2.2.2.1 (F.ht _ w1) (F.ht _ w2) (F.ht _ w3) rfl d hc hs hKn.2.1 rfl fun H1 kC hkC e1 z1 o1 => ?_
  exact kk hfr p l e s m args below meth c F H1 locs A (by omega) (hH.new h0 ⟨_, hci, (u_born ty F.ht hin hKn hkC e1 hty).to hfs⟩ o1) ⟨Nat.le_trans hS.1 (by omega), fun x h1 h2 => (o1 x (Nat.lt_of_lt_of_le h1 hS.1)).trans (hS.2.1 x h1 h2), hS.2.2⟩ hl
theorem r_objInit {a idx : Nat} (d : decode M.2.1 pc = .ok (.invokespecial idx, 3)) (hw : Cond.methodLink M.1.cls idx Lib.objectInit ∈ big) (hw2 : Cond.instanceMethod Lib.objectInit ∈ big) (hw3 : Cond.code Lib.objectInit ⟨#[0xb1]⟩ 1 none ∈ big) (hf : 1 ≤ R.frames) (hl2 : (st.map fun w => w.category).sum + 12 ≤ R.locals)
    (kk : J v M R K t0 cells slots h top (pc + 3) ls st) : J v M R K t0 cells slots h top pc ls (.ref a :: st) := by
  intro p l e s m args below meth c F H locs A hz hH hS hl
  exact W.objInit F.1 F.2.1 F.2.2.2.1 (F.ht _ hw) (F.ht _ hw2) (F.ht _ hw3) rfl (hl.1.trans F.2.2.1.symm) rfl d hf (by show 2 * 0 + _ + 12 ≤ _; omega) (kk p l e s m args below meth c F H locs A hz hH hS hl)
theorem r_aald {a n : Nat} {f : Nat → Option Nat} {x : Int32} (d : decode M.2.1 pc = .ok (.aaload, 1)) (hh : h a = some (aG v n f)) (i : Nat) (hx : x = nI i) (hn : i < n) (hN : n ≤ 2147483647) (kk : J v M R K t0 cells slots h top (pc + 1) ls (va_rf (f i) :: st)) : J v M R K t0 cells slots h top pc ls (.int x :: .ref a :: st) := by
  intro p l e s m args below meth c F H locs A hz hH hS hl
  obtain ⟨h1, h2⟩ := in_nI hx hn hN
  exact va_aldq F.1 F.2.1 F.bs.1 (va_P1 (hH a _ hh).2) 0 5 rfl rfl h1 d (by rw [h2]; exact kk p l e s m args below meth c F H locs A hz hH hS hl)
theorem r_aast {a n b : Nat} {f : Nat → Option Nat} {x : Int32} {fs : List Value} (d : decode M.2.1 pc = .ok (.aastore, 1)) (hh : h a = some (aG v n f)) (hb : h b = some (ob 3 fs)) (i : Nat) (hx : x = nI i) (hn : i < n) (hN : n ≤ 2147483647) (kk : J v M R K t0 cells slots (hp h a (aG v n (va_up f i (some b)))) top (pc + 1) ls st) : J v M R K t0 cells slots h top pc ls (.ref b :: .int x :: .ref a :: st) := by
  intro p l e s m args below meth c F H locs A hz hH hS hl
  obtain ⟨h1, h2⟩ := in_nI hx hn hN
  have hlt : x.toNatClampNeg < n := by omega
  have h0 : ¬ x < 0 := fun q => h1 (Or.inl q)
  obtain ⟨hz0, hat⟩ := hH a _ hh
  obtain ⟨-, r', hr', cellV, g1, g2, g3, -⟩ := hH b _ hb
  have hcls := (F.bs.1.1 3 (RX3, TX3, 10) rfl).2
  obtain ⟨kA, comp, k1, k2, k3, -⟩ := (F.bs.1.2 5 _ rfl).2
  have hcomp : comp = v.1.1 3 := Option.some.inj (k3.symm.trans hcls.1)
  subst hcomp
  obtain ⟨kC, hkC, -⟩ := id hcls.2
  refine W.aast F.1 F.2.1 (show H[a]? = some (arrV (cA v 5) n (fun j => va_rf (f j))) from hat) (fun q hq => by cases hq) (fun hq => by cases hq) k1 k2 rfl hkC ⟨h0, by rw [arrV_size]; exact hlt⟩ g1 (fun q hq => by rw [g3] at hq; cases hq) (by rw [g2]; exact hkC) (by rw [g2]; exact va_assign hcls) rfl rfl d fun H1 e1 z1 oq => ?_
  refine kk p l e s m args below meth c F H1 _ A (z1.trans hz) (hH.set hz0 ?_ oq) (hS.put z1 oq hz0) hl
  show H1[a]? = some (arrV (cA v 5) n (fun j => va_rf (va_up f i (some b) j)))
  rw [e1, arrV_store, h2]
  congr 2
  funext q
  by_cases hq : q = i
  · subst hq
    simp [updV, va_up, va_rf]
  · simp [updV, va_up, hq]
end JH
end
section
/-! ===== J rows: calls, ends, throws, the JDK's small ones ===== -/
def MwB (M : Md) (n : Nat) : Prop := cw M ∈ big ∧ Cond.initialized M.1.cls ∈ big ∧ (M.1.cls ≠ "java/lang/invoke/MethodHandle" ∧ M.1.cls ≠ "java/lang/invoke/VarHandle") ∧ (parseMethodDescriptor M.1.desc).map (fun d => d.parameters.length) = some n
def MwV (M : Md) (n : Nat) : Prop := MwB M n ∧ Cond.instanceMethod M.1 ∈ big ∧ Cond.selects M.1.cls M.1 M.1 ∈ big
def MwS (M : Md) (n : Nat) : Prop := MwB M n ∧ Cond.static M.1 ∈ big
def MwI (M : Md) (n : Nat) : Prop := MwB M n ∧ M.1.name = "<init>" ∧ Cond.instanceMethod M.1 ∈ big
/-- what a callee of d' frames asks of the room -/
def Fits (R : Room) (M' : Md) (d' : Nat) : Prop := d' + 1 ≤ R.frames ∧ 8 + (M'.2.2.1 + 11) + 60 * d' ≤ R.locals
theorem good_big {M' : Md} (hc : cw M' ∈ big) : GoodIn big (cw M' :: big) := by
  intro w hw
  have hb : w ∈ big := by
    rcases List.mem_cons.mp hw with h | h
    · rw [h]; exact hc
    · exact h
  exact ⟨hb, good_of_word (big_good hb)⟩
theorem desc_len {M' : Md} {n : Nat} (h : (parseMethodDescriptor M'.1.desc).map (fun d => d.parameters.length) = some n) : ∀ sig, parseMethodDescriptor M'.1.desc = some sig → n = sig.parameters.length := by
  intro sig hs
  rw [hs] at h
  exact (Option.some.inj h).symm
section JC
variable {v : Ev} {M : Md} {R : Room} {K : List Frame → Array Value → State → State → Prop} {t0 cells slots : Nat} {h : Hp} {top pc : Nat} {ls : List (Option Value)} {st : List Value}
theorem J_pre {p : Program} {l : Launch} {s : State} {m : MethodId} {args : Array Value} {meth : Method} {c : Code} (F : Fx v M t0 p l s m args meth c) {H : Heap} {locs : List Loc} (hz : H.size = top) (hH : Hh v h H) (hS : va_S (Ar v) s.heap H locs) {U : State} (hU : U.heap = H) (hW : s.WarmedH U.vm) : Rp v h top U :=
  ⟨F.bs.warm hW (hS.F hU), by rw [hU]; exact hz, by rw [← hz]; exact Nat.le_trans F.z hS.1, by rw [hU]; exact hH⟩
/-- behind a call -/
theorem J_after {p : Program} {l : Launch} {e : Env} {R : Room} {s : State} {m : MethodId} {args : Array Value} {below : List Frame} {meth : Method} {c : Code} {H : Heap} {locs : List Loc} {cells slots : Nat} {Q : State → Prop} {mc ms : Nat} {A : Array Slot} {st0 rest : List Value} {a : Array Value} {Qr : Option Value → Hp → Nat → Prop} {Qx : String → Hp → Nat → Prop}
    (hr : vx_Run p l e R s m args below meth c H locs cells slots mc ms (F0 m pc A st0) rest (Qc v Qr a) (XC v Qx) (Ar v)) (hS : va_S (Ar v) s.heap H locs)
    (k : ∀ (r : Option Value) (h' : Hp) (top' : Nat) (H' : Heap) (locs' : List Loc), Qr r h' top' → H'.size = top' → Hh v h' H' → va_S (Ar v) s.heap H' locs' → W p l e R s m args below meth c H' locs' (cells + mc) (slots + ms) Q (F0 m (pc + 3) A (r.toList ++ rest)))
    (kx : ∀ (E : String) (ce : Cell) (q : Addr) (h' : Hp) (top' : Nat) (H' : Heap) (locs' : List Loc), Qx E h' top' → H'.size = top' → Hh v h' H' → va_S (Ar v) s.heap H' locs' → H'[q]? = some ce → ce.vm = .none → s.vm.findClass E = some ce.cls → vx_W p l e R s m args below meth c H' locs' (cells + mc) (slots + ms) Q (F0 m pc A rest) q) :
    W p l e R s m args below meth c H locs cells slots Q (F0 m pc A st0) := by
  intro T hT X
  rcases hr T hT X with ⟨rv, st₀, t, T', L, g0, X', hL, e1, e2, ⟨⟨r, h', top', hoc, hq, hz', hH'⟩, hF⟩, hgo⟩ | ⟨q, st₀, t, T', L, E, ce, g0, X', hL, e1, e2, ⟨⟨h', top', hq, hz', hH'⟩, hF⟩, hce, hcv, hcl, hgo⟩
  · cases hoc
    obtain ⟨-, -, hS1⟩ := vx_keep g0 e1 hS (fun _ _ x => x) (fun _ x => x) hL hF
    obtain ⟨t2, a1, b1⟩ := k rv h' top' T'.heap (locs ++ L) hq (by rw [e1]; exact hz') (by rw [e1]; exact hH') hS1 T' rfl X'
    exact ⟨t2, hgo t2 a1, b1⟩
  · obtain ⟨-, -, hS1⟩ := vx_keep g0 e1 hS (fun _ _ x => x) (fun _ x => x) hL hF
    obtain ⟨t2, a1, b1⟩ := kx E ce q h' top' T'.heap (locs ++ L) hq (by rw [e1]; exact hz') (by rw [e1]; exact hH') hS1 (by rw [e1]; exact hce) hcv hcl T' rfl X'
    exact ⟨t2, hgo.trans a1, b1⟩
theorem J_callB {M' : Md} {idx n d' mc' ms' : Nat} {p : Program} {l : Launch} {s : State} {m : MethodId} {args : Array Value} {meth : Method} {c : Code} (F : Fx v M t0 p l s m args meth c) (hh : M'.2.2.2.2 = []) (mw : MwB M' n) (hl : Cond.methodLink M.1.cls idx M'.1 ∈ big) (hR : Fits R M' d') :
    CallB R s args M.1.cls idx M'.1 M'.2.1 M'.2.2.1 M'.2.2.2.1 (cw M' :: big) (rmOf d' mc' ms') mc' ms' n := by
  have hc : cw M' = Cond.code M'.1 M'.2.1 M'.2.2.1 M'.2.2.2.1 := by unfold cw; rw [hh]
  obtain ⟨w1, w2, w3, w4⟩ := mw
  refine ⟨rfl, rfl, hR.1, hR.2, pay_in F.ht (good_big w1), by rw [hc]; exact List.mem_cons_self, by rw [← hc]; exact F.ht _ w1, F.ht _ w2, w3, desc_len w4, F.ht _ hl⟩
/-- a call of a method that doesn't throw -/
theorem r_callV {M' : Md} {idx n d' mc' ms' b ci : Nat} {fs As rest : List Value} {r : vw_C} {Qr : Option Value → Hp → Nat → Prop} (d : decode M.2.1 pc = .ok (.invokevirtual idx, 3)) (hl : Cond.methodLink M.1.cls idx M'.1 ∈ big) (hh : M'.2.2.2.2 = []) (mw : MwV M' n) (hR : Fits R M' d')
    (hb : h b = some (ob ci fs)) (hci : vwCl[ci]? = some r) (hr1 : r.1 = M'.1.cls) (hC : Cal v M' d' mc' ms' (.ref b :: As) h top Qr noX) (hst : st = As.reverse ++ .ref b :: rest) (hn : As.length = n) (hW : (rest.map fun w => w.category).sum ≤ 8) (hc : cells + mc' ≤ R.cells) (hs : slots + ms' ≤ R.slots)
    (k : ∀ (rv : Option Value) (h' : Hp) (top' : Nat), Qr rv h' top' → J v M R K t0 (cells + mc') (slots + ms') h' top' (pc + 3) ls (rv.toList ++ rest)) : J v M R K t0 cells slots h top pc ls st := by
  intro p l e s m args below meth c F H locs A hz hH hS hl2
  obtain ⟨w0, w5, w6⟩ := mw
  subst hst
  have hrecv : ∃ cellB : Cell, H[b]? = some cellB ∧ cellB.vm.isStatics = false ∧ s.vm.findClass M'.1.cls = some cellB.cls := by
    rw [← hr1]
    exact va_recv F.bs.1 (va_P1 (hH b _ hb).2) hci (q0 := 0) rfl
  refine J_after (vx_runV (Ts := big) (own := M.1.cls) (C := M'.1.cls) ⟨F.1, F.2.1, F.2.2.1, F.2.2.2.1, F.ht⟩ (hC l F.2.2.2.2.2.2.2.1) ⟨J_callB F hh w0 hl hR, F.ht _ w5, F.ht _ w6⟩ ⟨Rp.blind, hrecv, fun U hU hW1 => ⟨rfl, J_pre F hz hH hS hU hW1⟩⟩ rfl hn hl2.1 rfl (by show 2 * 0 + _ ≤ 8; omega) d ⟨hc, hs⟩) hS ?_ ?_
  · intro rv h' top' H' locs' hq hz' hH' hS'
    exact k rv h' top' hq p l e s m args below meth c F H' locs' A hz' hH' hS' hl2
  · intro E ce q h' top' H' locs' hq
    exact hq.elim
theorem r_callS {M' : Md} {idx n d' mc' ms' : Nat} {As rest : List Value} {Qr : Option Value → Hp → Nat → Prop} (d : decode M.2.1 pc = .ok (.invokestatic idx, 3)) (hl : Cond.methodLink M.1.cls idx M'.1 ∈ big) (hh : M'.2.2.2.2 = []) (mw : MwS M' n) (hR : Fits R M' d')
    (hC : Cal v M' d' mc' ms' As h top Qr noX) (hst : st = As.reverse ++ rest) (hn : As.length = n) (hW : (rest.map fun w => w.category).sum ≤ 8) (hc : cells + mc' ≤ R.cells) (hs : slots + ms' ≤ R.slots)
    (k : ∀ (rv : Option Value) (h' : Hp) (top' : Nat), Qr rv h' top' → J v M R K t0 (cells + mc') (slots + ms') h' top' (pc + 3) ls (rv.toList ++ rest)) : J v M R K t0 cells slots h top pc ls st := by
  intro p l e s m args below meth c F H locs A hz hH hS hl2
  obtain ⟨w0, w5⟩ := mw
  subst hst
  refine J_after (vx_runS (Ts := big) (own := M.1.cls) ⟨F.1, F.2.1, F.2.2.1, F.2.2.2.1, F.ht⟩ (hC l F.2.2.2.2.2.2.2.1) ⟨J_callB F hh w0 hl hR, F.ht _ w5⟩ ⟨Rp.blind, fun U hU hW1 => ⟨rfl, J_pre F hz hH hS hU hW1⟩⟩ rfl hn hl2.1 rfl (by show 2 * 0 + _ ≤ 8; omega) d ⟨hc, hs⟩) hS ?_ ?_
  · intro rv h' top' H' locs' hq hz' hH' hS'
    exact k rv h' top' hq p l e s m args below meth c F H' locs' A hz' hH' hS' hl2
  · intro E ce q h' top' H' locs' hq
    exact hq.elim
/-- a static call of a method with a table of handlers, which throws nothing -/
theorem r_callSH {M' : Md} {idx n d' mc' ms' : Nat} {As rest : List Value} {Qr : Option Value → Hp → Nat → Prop} {x : Nat × Nat × Nat × Nat} {hs1 : List (Nat × Nat × Nat × Nat)} (d : decode M.2.1 pc = .ok (.invokestatic idx, 3)) (hl : Cond.methodLink M.1.cls idx M'.1 ∈ big) (hh : M'.2.2.2.2 = x :: hs1) (mw : MwS M' n) (hR : Fits R M' d')
    (hC : Cal v M' d' mc' ms' As h top Qr noX) (hst : st = As.reverse ++ rest) (hn : As.length = n) (hW : (rest.map fun w => w.category).sum ≤ 8) (hc : cells + mc' ≤ R.cells) (hs : slots + ms' ≤ R.slots)
    (k : ∀ (rv : Option Value) (h' : Hp) (top' : Nat), Qr rv h' top' → J v M R K t0 (cells + mc') (slots + ms') h' top' (pc + 3) ls (rv.toList ++ rest)) : J v M R K t0 cells slots h top pc ls st := by
  intro p l e s m args below meth c F H locs A hz hH hS hl2
  obtain ⟨⟨w1, w2, w3, w4⟩, w5⟩ := mw
  subst hst
  have hcw : cw M' = Cond.codeWith M'.1 M'.2.1 M'.2.2.1 M'.2.2.2.1 M'.2.2.2.2 := by unfold cw; rw [hh]
  refine J_after (vx_runSX (Ts := big) (own := M.1.cls) (hh := M'.2.2.2.2) (bytes := M'.2.1) (maxL := M'.2.2.1) (ret := M'.2.2.2.1) ⟨F.1, F.2.1, F.2.2.1, F.2.2.2.1, F.ht⟩ (hC l F.2.2.2.2.2.2.2.1) ⟨⟨rfl, rfl, hR.1, hR.2, pay_in F.ht (good_big w1), by rw [hcw]; exact List.mem_cons_self⟩, by rw [← hcw]; exact F.ht _ w1, F.ht _ w2, w3, desc_len w4, F.ht _ hl, F.ht _ w5⟩ ⟨Rp.blind, fun U hU hW1 => ⟨rfl, J_pre F hz hH hS hU hW1⟩⟩ rfl hn hl2.1 rfl (by show 2 * 0 + _ ≤ 8; omega) d ⟨hc, hs⟩) hS ?_ ?_
  · intro rv h' top' H' locs' hq hz' hH' hS'
    exact k rv h' top' hq p l e s m args below meth c F H' locs' A hz' hH' hS' hl2
  · intro E ce q h' top' H' locs' hq
    exact hq.elim
theorem r_callI {M' : Md} {idx n d' mc' ms' b : Nat} {As rest : List Value} {Qr : Option Value → Hp → Nat → Prop} (d : decode M.2.1 pc = .ok (.invokespecial idx, 3)) (hl : Cond.methodLink M.1.cls idx M'.1 ∈ big ∨ ∃ host, Cond.methodLinkNest M.1.cls idx M'.1 host ∈ lw_tbl) (hh : M'.2.2.2.2 = []) (hret : M'.2.2.2.1 = none) (mw : MwI M' n) (hR : Fits R M' d')
    (hC : Cal v M' d' mc' ms' (.ref b :: As) h top Qr noX) (hst : st = As.reverse ++ .ref b :: rest) (hn : As.length = n) (hW : (rest.map fun w => w.category).sum ≤ 8) (hc : cells + mc' ≤ R.cells) (hs : slots + ms' ≤ R.slots)
    (k : ∀ (rv : Option Value) (h' : Hp) (top' : Nat), Qr rv h' top' → J v M R K t0 (cells + mc') (slots + ms') h' top' (pc + 3) ls (rv.toList ++ rest)) : J v M R K t0 cells slots h top pc ls st := by
  intro p l e s m args below meth c F H locs A hz hH hS hl2
  obtain ⟨w0, w5, w6⟩ := mw
  subst hst
  rcases hl with hl | ⟨host, hl⟩
  · refine J_after (vx_runI (Ts := big) (own := M.1.cls) ⟨F.1, F.2.1, F.2.2.1, F.2.2.2.1, F.ht⟩ (hC l F.2.2.2.2.2.2.2.1) ⟨hret ▸ J_callB F hh w0 hl hR, w5, F.ht _ w6⟩ ⟨Rp.blind, fun U hU hW1 => ⟨rfl, J_pre F hz hH hS hU hW1⟩⟩ rfl hn hl2.1 rfl (by show 2 * 0 + _ ≤ 8; omega) d ⟨hc, hs⟩) hS ?_ ?_
    · intro rv h' top' H' locs' hq hz' hH' hS'
      exact k rv h' top' hq p l e s m args below meth c F H' locs' A hz' hH' hS' hl2
    · intro E ce q h' top' H' locs' hq
      exact hq.elim
  · obtain ⟨w1, w2, w3, w4⟩ := w0
    have hcw : cw M' = Cond.code M'.1 M'.2.1 M'.2.2.1 none := by unfold cw; rw [hh, hret]
    refine J_after (vx_runIN (Ts := big) (own := M.1.cls) (host := host) (bytes := M'.2.1) (maxL := M'.2.2.1) ⟨F.1, F.2.1, F.2.2.1, F.2.2.2.1, F.ht⟩ (hC l F.2.2.2.2.2.2.2.1) ⟨⟨⟨rfl, rfl, hR.1, hR.2, pay_in F.ht (good_big w1), by rw [hcw]; exact List.mem_cons_self⟩, by rw [← hcw]; exact F.ht _ w1, F.ht _ w2, w3, desc_len w4, F.nest hl rfl⟩, w5, F.ht _ w6⟩ ⟨Rp.blind, fun U hU hW1 => ⟨rfl, J_pre F hz hH hS hU hW1⟩⟩ rfl hn hl2.1 rfl (by show 2 * 0 + _ ≤ 8; omega) d ⟨hc, hs⟩) hS ?_ ?_
    · intro rv h' top' H' locs' hq hz' hH' hS'
      exact k rv h' top' hq p l e s m args below meth c F H' locs' A hz' hH' hS' hl2
    · intro E ce q h' top' H' locs' hq
      exact hq.elim
/-- what was thrown goes on to the caller -/
theorem J_out {Qr : Option Value → Hp → Nat → Prop} {Qx : String → Hp → Nat → Prop} {mc ms : Nat} {p : Program} {l : Launch} {e : Env} {R : Room} {s : State} {m : MethodId} {args : Array Value} {below : List Frame} {meth : Method} {c : Code} {H : Heap} {locs : List Loc} {cells slots : Nat} {A : Array Slot} {rest : List Value} {E : String} {ce : Cell} {q : Addr}
    (F : Fx v M t0 p l s m args meth c) (hhM : M.2.2.2.2 = []) (hx : Qx E h top) (hz : H.size = top) (hH : Hh v h H) (hS : va_S (Ar v) s.heap H locs) (hcell : H[q]? = some ce) (hv : ce.vm = .none) (hcl : s.vm.findClass E = some ce.cls) (hc : cells ≤ mc) (hs : slots ≤ ms) :
    vx_W p l e R s m args below meth c H locs cells slots (KM v Qr Qx mc ms below args s) (F0 m pc A rest) q := by
  have htab : ∀ x ∈ c.exceptionTable.toList, covers x pc = false := by
    obtain ⟨-, -, -, -, -, -, -, -, -, -, -, -, h1⟩ := F
    rw [h1, hhM]
    intro x hx
    cases hx
  exact vx_out htab F.2.2.2.2.2.2.1 hcell hv hcl (fun t ht _ => ⟨⟨h, top, hx, by rw [ht]; exact hz, by rw [ht]; exact hH⟩, hS.F ht⟩) hS.2.2 hc hs
/-- a call of a method that may throw; what it throws goes on -/
theorem r_callVX {M' : Md} {idx n d' mc' ms' b ci mc ms : Nat} {fs As rest : List Value} {r : vw_C} {Qr Qr0 : Option Value → Hp → Nat → Prop} {Qx Qx0 : String → Hp → Nat → Prop} (d : decode M.2.1 pc = .ok (.invokevirtual idx, 3)) (hl : Cond.methodLink M.1.cls idx M'.1 ∈ big) (hh : M'.2.2.2.2 = []) (hhM : M.2.2.2.2 = []) (mw : MwV M' n) (hR : Fits R M' d')
    (hb : h b = some (ob ci fs)) (hci : vwCl[ci]? = some r) (hr1 : r.1 = M'.1.cls) (hC : Cal v M' d' mc' ms' (.ref b :: As) h top Qr Qx) (hst : st = As.reverse ++ .ref b :: rest) (hn : As.length = n) (hW : (rest.map fun w => w.category).sum ≤ 8) (hc : cells + mc' ≤ R.cells) (hs : slots + ms' ≤ R.slots) (hc2 : cells + mc' ≤ mc) (hs2 : slots + ms' ≤ ms)
    (k : ∀ (rv : Option Value) (h' : Hp) (top' : Nat), Qr rv h' top' → J v M R (KM v Qr0 Qx0 mc ms) t0 (cells + mc') (slots + ms') h' top' (pc + 3) ls (rv.toList ++ rest))
    (kx : ∀ (E : String) (h' : Hp) (top' : Nat), Qx E h' top' → Qx0 E h' top') : J v M R (KM v Qr0 Qx0 mc ms) t0 cells slots h top pc ls st := by
  intro p l e s m args below meth c F H locs A hz hH hS hl2
  obtain ⟨w0, w5, w6⟩ := mw
  subst hst
  have hrecv : ∃ cellB : Cell, H[b]? = some cellB ∧ cellB.vm.isStatics = false ∧ s.vm.findClass M'.1.cls = some cellB.cls := by
    rw [← hr1]
    exact va_recv F.bs.1 (va_P1 (hH b _ hb).2) hci (q0 := 0) rfl
  refine J_after (vx_runV (Ts := big) (own := M.1.cls) (C := M'.1.cls) ⟨F.1, F.2.1, F.2.2.1, F.2.2.2.1, F.ht⟩ (hC l F.2.2.2.2.2.2.2.1) ⟨J_callB F hh w0 hl hR, F.ht _ w5, F.ht _ w6⟩ ⟨Rp.blind, hrecv, fun U hU hW1 => ⟨rfl, J_pre F hz hH hS hU hW1⟩⟩ rfl hn hl2.1 rfl (by show 2 * 0 + _ ≤ 8; omega) d ⟨hc, hs⟩) hS ?_ ?_
  · intro rv h' top' H' locs' hq hz' hH' hS'
    exact k rv h' top' hq p l e s m args below meth c F H' locs' A hz' hH' hS' hl2
  · intro E ce q h' top' H' locs' hq hz' hH' hS' g1 g2 g3
    exact J_out F hhM (kx E h' top' hq) hz' hH' hS' g1 g2 g3 hc2 hs2
/-- a call of a method that may throw, in a method that catches: the exception's class tells which handler -/
theorem r_callVC {M' : Md} {idx n d' mc' ms' b ci : Nat} {fs As rest : List Value} {r : vw_C} {Qr : Option Value → Hp → Nat → Prop} {Qx : String → Hp → Nat → Prop} (d : decode M.2.1 pc = .ok (.invokevirtual idx, 3)) (hl : Cond.methodLink M.1.cls idx M'.1 ∈ big) (hh : M'.2.2.2.2 = []) (mw : MwV M' n) (hR : Fits R M' d')
    (hb : h b = some (ob ci fs)) (hci : vwCl[ci]? = some r) (hr1 : r.1 = M'.1.cls) (hC : Cal v M' d' mc' ms' (.ref b :: As) h top Qr Qx) (hst : st = As.reverse ++ .ref b :: rest) (hn : As.length = n) (hW : (rest.map fun w => w.category).sum ≤ 8) (hc : cells + mc' ≤ R.cells) (hs : slots + ms' ≤ R.slots)
    (k : ∀ (rv : Option Value) (h' : Hp) (top' : Nat), Qr rv h' top' → J v M R K t0 (cells + mc') (slots + ms') h' top' (pc + 3) ls (rv.toList ++ rest))
    (kx : ∀ (E : String) (q : Addr) (h' : Hp) (top' : Nat), Qx E h' top' → ∃ (pre : List ExceptionTableEntry) (x : ExceptionTableEntry) (suf : List ExceptionTableEntry) (name : String), tableOf M.2.2.2.2 = pre ++ x :: suf ∧
      (∀ z ∈ pre, covers z pc = false ∨ (z.catchType ≠ 0 ∧ ∃ nm : String, Cond.classLink M.1.cls z.catchType nm ∈ big ∧ E ∈ exC ∧ nm ∈ exC ∧ E ≠ nm)) ∧ covers x pc = true ∧ x.catchType ≠ 0 ∧ Cond.classLink M.1.cls x.catchType name ∈ big ∧ Cond.castable E name ∈ lw_tbl ∧
      J v M R K t0 (cells + mc') (slots + ms') h' top' x.handlerPc ls [.ref q]) : J v M R K t0 cells slots h top pc ls st := by
  intro p l e s m args below meth c F H locs A hz hH hS hl2
  obtain ⟨w0, w5, w6⟩ := mw
  subst hst
  have hrecv : ∃ cellB : Cell, H[b]? = some cellB ∧ cellB.vm.isStatics = false ∧ s.vm.findClass M'.1.cls = some cellB.cls := by
    rw [← hr1]
    exact va_recv F.bs.1 (va_P1 (hH b _ hb).2) hci (q0 := 0) rfl
  refine J_after (vx_runV (Ts := big) (own := M.1.cls) (C := M'.1.cls) ⟨F.1, F.2.1, F.2.2.1, F.2.2.2.1, F.ht⟩ (hC l F.2.2.2.2.2.2.2.1) ⟨J_callB F hh w0 hl hR, F.ht _ w5, F.ht _ w6⟩ ⟨Rp.blind, hrecv, fun U hU hW1 => ⟨rfl, J_pre F hz hH hS hU hW1⟩⟩ rfl hn hl2.1 rfl (by show 2 * 0 + _ ≤ 8; omega) d ⟨hc, hs⟩) hS ?_ ?_
  · intro rv h' top' H' locs' hq hz' hH' hS'
    exact k rv h' top' hq p l e s m args below meth c F H' locs' A hz' hH' hS' hl2
  · intro E ce q h' top' H' locs' hq hz' hH' hS' g1 g2 g3
    obtain ⟨pre, x, suf, name, e1, e2, e3, e4, e5, e6, e7⟩ := kx E q h' top' hq
    have htab : c.exceptionTable.toList = pre ++ x :: suf := by
      obtain ⟨-, -, -, -, -, -, -, -, -, -, -, -, h1⟩ := F
      rw [h1, e1]
    refine vx_catch F.2.2.2.1 pre x suf htab (fun z hz => ?_) e3 e4 (F.ht _ e5) (F.nest e6 rfl) g1 g2 g3 (e7 p l e s m args below meth c F H' locs' A hz' hH' hS' hl2)
    rcases e2 z hz with q1 | ⟨q1, nm, q2, q3, q4, q5⟩
    · exact Or.inl q1
    · exact Or.inr ⟨q1, nm, F.ht _ q2, F.bs.2.1.2.2.1 E q3 nm q4 q5⟩
section Ret
variable {Qr : Option Value → Hp → Nat → Prop} {Qx : String → Hp → Nat → Prop} {mc ms : Nat}
theorem J_q {p : Program} {l : Launch} {s t : State} {m : MethodId} {args : Array Value} {meth : Method} {c : Code} (F : Fx v M t0 p l s m args meth c) {r : Option Value} (hq : Qr r h top) {H : Heap} {locs : List Loc} (hz : H.size = top) (hH : Hh v h H) (hS : va_S (Ar v) s.heap H locs) (ht : t.heap = H) : Qc v Qr args s (.returned r) t :=
  ⟨⟨r, h, top, rfl, hq, by rw [ht]; exact hz, by rw [ht]; exact hH⟩, hS.F ht⟩
theorem r_iret {x : Int32} (d : decode M.2.1 pc = .ok (.ireturn, 1)) (hr : M.2.2.2.1 = some .int) (hc : cells ≤ mc) (hs : slots ≤ ms) (hq : Qr (some (.int x)) h top) : J v M R (KM v Qr Qx mc ms) t0 cells slots h top pc ls [.int x] := by
  intro p l e s m args below meth c F H locs A hz hH hS hl
  exact W.widen hc hs (vx_ret (W.iret F.1 F.2.1 (F.2.2.2.2.2.1.trans hr) (fun t ht _ => J_q F hq hz hH hS ht) hS.2.2 d (hlocks := F.2.2.2.2.2.2.1)))
theorem r_zret {x : Int32} {ty : FieldType} (d : decode M.2.1 pc = .ok (.ireturn, 1)) (hr : M.2.2.2.1 = some ty) (hn : narrow ty (.int x) = .int x) (hc : cells ≤ mc) (hs : slots ≤ ms) (hq : Qr (some (.int x)) h top) : J v M R (KM v Qr Qx mc ms) t0 cells slots h top pc ls [.int x] := by
  intro p l e s m args below meth c F H locs A hz hH hS hl
  exact W.widen hc hs (vx_ret (W.zret F.1 F.2.1 (F.2.2.2.2.2.1.trans hr) hn (fun t ht _ => J_q F hq hz hH hS ht) hS.2.2 d (hlocks := F.2.2.2.2.2.2.1)))
theorem r_lret {x : Int64} (d : decode M.2.1 pc = .ok (.lreturn, 1)) (hr : M.2.2.2.1 = some .long) (hc : cells ≤ mc) (hs : slots ≤ ms) (hq : Qr (some (.long x)) h top) : J v M R (KM v Qr Qx mc ms) t0 cells slots h top pc ls [.long x] := by
  intro p l e s m args below meth c F H locs A hz hH hS hl
  exact W.widen hc hs (vx_ret (W.lret F.1 F.2.1 (F.2.2.2.2.2.1.trans hr) (fun t ht _ => J_q F hq hz hH hS ht) hS.2.2 d (hlocks := F.2.2.2.2.2.2.1)))
theorem r_fret {x : UInt32} (d : decode M.2.1 pc = .ok (.freturn, 1)) (hr : M.2.2.2.1 = some .float) (hc : cells ≤ mc) (hs : slots ≤ ms) (hq : Qr (some (.float x)) h top) : J v M R (KM v Qr Qx mc ms) t0 cells slots h top pc ls [.float x] := by
  intro p l e s m args below meth c F H locs A hz hH hS hl
  exact W.widen hc hs (vx_ret (W.fret F.1 F.2.1 (F.2.2.2.2.2.1.trans hr) (fun t ht _ => J_q F hq hz hH hS ht) hS.2.2 d (hlocks := F.2.2.2.2.2.2.1)))
theorem r_aret {x : Nat} {rt : FieldType} (d : decode M.2.1 pc = .ok (.areturn, 1)) (hr : M.2.2.2.1 = some rt) (hrt : (∃ n, rt = .object n) ∨ ∃ t, rt = .array t) (hc : cells ≤ mc) (hs : slots ≤ ms) (hq : Qr (some (.ref x)) h top) : J v M R (KM v Qr Qx mc ms) t0 cells slots h top pc ls [.ref x] := by
  intro p l e s m args below meth c F H locs A hz hH hS hl
  exact W.widen hc hs (vx_ret (W.aret F.1 F.2.1 (F.2.2.2.2.2.1.trans hr) hrt (Or.inr ⟨x, rfl⟩) (fun t ht _ => J_q F hq hz hH hS ht) hS.2.2 d (hlocks := F.2.2.2.2.2.2.1)))
theorem r_vret (d : decode M.2.1 pc = .ok (.return_, 1)) (hr : M.2.2.2.1 = none) (hc : cells ≤ mc) (hs : slots ≤ ms) (hq : Qr none h top) : J v M R (KM v Qr Qx mc ms) t0 cells slots h top pc ls [] := by
  intro p l e s m args below meth c F H locs A hz hH hS hl
  exact W.widen hc hs (vx_ret (W.vret F.1 F.2.1 (F.2.2.2.2.2.1.trans hr) (fun t ht _ => J_q F hq hz hH hS ht) hS.2.2 d (hlocks := F.2.2.2.2.2.2.1)))
/-- 'throw new E("text")' -/
def Xw (own : String) (ik ic : Nat) (cls : String) : Prop := Bundle.fit cls = true ∧ Cond.classLink own ik cls ∈ big ∧ Cond.initialized cls ∈ big ∧
  (∀ w ∈ vx_atS own ic cls ["java/lang/RuntimeException", "java/lang/Exception"], w ∈ lw_tbl ∧ (goodWord w || nwk w) = true) ∧ (∀ w ∈ Cond.classLink own ik cls :: Cond.initialized cls :: vx_atS own ic cls ["java/lang/RuntimeException", "java/lang/Exception"], vx_ot w = true)
theorem Xw.words {own : String} {ik ic : Nat} {cls : String} (x : Xw own ik ic cls) {p : Program} {l : Launch} {s : State} {m : MethodId} {args : Array Value} {meth : Method} {c : Code} (F : Fx v M t0 p l s m args meth c) : ∀ w ∈ vx_atS own ic cls ["java/lang/RuntimeException", "java/lang/Exception"], w.before args s = true := by
  intro w hw
  obtain ⟨h1, h2⟩ := x.2.2.2.1 w hw
  rw [Bool.or_eq_true] at h2
  rcases h2 with h2 | h2
  · exact F.ht _ (big_of h1 h2)
  · exact F.nest h1 h2
theorem ex_fit : ∀ n ∈ ["java/lang/RuntimeException", "java/lang/Exception"], Bundle.fit n = true := by decide +kernel
theorem r_throwW {ik is ic : Nat} {cls tx : String} (i : Nat) (hhM : M.2.2.2.2 = []) (x : Xw M.1.cls ik ic cls) (hst : stTab[i]? = some (M.1.cls, is, tx))
    (d0 : decode M.2.1 pc = .ok (.new ik, 3)) (d3 : decode M.2.1 (pc + 3) = .ok (.dup, 1)) (d4 : decode M.2.1 (pc + 4) = .ok (.ldc_w is, 3)) (d7 : decode M.2.1 (pc + 7) = .ok (.invokespecial ic, 3)) (d10 : decode M.2.1 (pc + 10) = .ok (.athrow, 1))
    (hf : 5 < R.frames) (hl2 : (st.map fun w => w.category).sum + 82 ≤ R.locals) (hc : cells + 1 ≤ R.cells) (hs : slots + 6 ≤ R.slots) (hc2 : cells + 1 ≤ mc) (hs2 : slots + 6 ≤ ms) (hq : ∀ top', top ≤ top' → Qx cls h top') : J v M R (KM v Qr Qx mc ms) t0 cells slots h top pc ls st := by
  intro p l e s m args below meth c F H locs A hz hH hS hl
  have htab : ∀ x ∈ c.exceptionTable.toList, covers x (pc + 10) = false := by
    obtain ⟨-, -, -, -, -, -, -, -, -, -, -, -, h1⟩ := F
    rw [h1, hhM]
    intro x hx
    cases hx
  exact vx_throwSW (names := ["java/lang/RuntimeException", "java/lang/Exception"]) F.1 F.2.1 F.2.2.2.2.2.2.2.1 F.2.2.2.1 x.1 ex_fit (F.ht _ x.2.1) (F.ht _ x.2.2.1) (F.bs.2.1.2.1 i _ hst) (x.words F) x.2.2.2.2 F.old.2.2.1 F.old.2.2.2.1 hS (hl.1.trans F.2.2.1.symm) d0 d3 d4 d7 d10 htab hf hl2 hc hs F.2.2.2.2.2.2.1
    (fun t _ h1 h2 => ⟨⟨h, t.heap.size, hq _ (by omega), rfl, fun a e9 ha => ⟨(hH a e9 ha).1, (hH a e9 ha).2.kept (h2 a (hH.lt ha))⟩⟩, Nat.le_trans hS.1 h1, fun q hq1 hq2 => (h2 q (Nat.lt_of_lt_of_le hq1 hS.1)).trans (hS.2.1 q hq1 hq2)⟩) hS.2.2 hc2 hs2
theorem r_throw {ik is ic : Nat} {cls tx : String} (i : Nat) (hhM : M.2.2.2.2 = []) (x : Xw M.1.cls ik ic cls) (hst : stTab[i]? = some (M.1.cls, is, tx))
    (d0 : decode M.2.1 pc = .ok (.new ik, 3)) (d3 : decode M.2.1 (pc + 3) = .ok (.dup, 1)) (d4 : decode M.2.1 (pc + 4) = .ok (.ldc is, 2)) (d7 : decode M.2.1 (pc + 6) = .ok (.invokespecial ic, 3)) (d10 : decode M.2.1 (pc + 9) = .ok (.athrow, 1))
    (hf : 5 < R.frames) (hl2 : (st.map fun w => w.category).sum + 82 ≤ R.locals) (hc : cells + 1 ≤ R.cells) (hs : slots + 6 ≤ R.slots) (hc2 : cells + 1 ≤ mc) (hs2 : slots + 6 ≤ ms) (hq : ∀ top', top ≤ top' → Qx cls h top') : J v M R (KM v Qr Qx mc ms) t0 cells slots h top pc ls st := by
  intro p l e s m args below meth c F H locs A hz hH hS hl
  have htab : ∀ x ∈ c.exceptionTable.toList, covers x (pc + 9) = false := by
    obtain ⟨-, -, -, -, -, -, -, -, -, -, -, -, h1⟩ := F
    rw [h1, hhM]
    intro x hx
    cases hx
  exact vx_throwS (names := ["java/lang/RuntimeException", "java/lang/Exception"]) F.1 F.2.1 F.2.2.2.2.2.2.2.1 F.2.2.2.1 x.1 ex_fit (F.ht _ x.2.1) (F.ht _ x.2.2.1) (F.bs.2.1.2.1 i _ hst) (x.words F) x.2.2.2.2 F.old.2.2.1 F.old.2.2.2.1 hS (hl.1.trans F.2.2.1.symm) d0 d3 d4 d7 d10 htab hf hl2 hc hs F.2.2.2.2.2.2.1
    (fun t _ h1 h2 => ⟨⟨h, t.heap.size, hq _ (by omega), rfl, fun a e9 ha => ⟨(hH a e9 ha).1, (hH a e9 ha).2.kept (h2 a (hH.lt ha))⟩⟩, Nat.le_trans hS.1 h1, fun q hq1 hq2 => (h2 q (Nat.lt_of_lt_of_le hq1 hS.1)).trans (hS.2.1 q hq1 hq2)⟩) hS.2.2 hc2 hs2
end Ret
/-- Math -/
theorem r_mmin {idx : Nat} {x y : Int32} (d : decode M.2.1 pc = .ok (.invokestatic idx, 3)) (w1 : Cond.methodLink M.1.cls idx Lib.Math.min.name ∈ big) (w2 : Cond.static Lib.Math.min.name ∈ big) (w3 : Cond.initialized "java/lang/Math" ∈ big) (w4 : Cond.code Lib.Math.min.name Lib.Math.min.code 2 (some .int) ∈ big) (hf : 1 ≤ R.frames) (hl2 : (st.map fun w => w.category).sum + 13 ≤ R.locals) (hc : cells ≤ R.cells) (hs : slots ≤ R.slots)
    (kk : J v M R K t0 cells slots h top (pc + 3) ls (.int (if y < x then y else x) :: st)) : J v M R K t0 cells slots h top pc ls (.int y :: .int x :: st) := by
  intro p l e s m args below meth c F H locs A hz hH hS hl
  exact va_mmin F.1 F.2.1 (F.2.2.1.trans hl.1.symm) F.2.2.2.1 (F.ht _ w1) (F.ht _ w2) (F.ht _ w3) (F.ht _ w4) hf hl2 hc hs d (kk p l e s m args below meth c F H locs A hz hH hS hl)
theorem r_mmax {idx : Nat} {x y : Int32} (d : decode M.2.1 pc = .ok (.invokestatic idx, 3)) (w1 : Cond.methodLink M.1.cls idx Lib.Math.max.name ∈ big) (w2 : Cond.static Lib.Math.max.name ∈ big) (w3 : Cond.initialized "java/lang/Math" ∈ big) (w4 : Cond.code Lib.Math.max.name Lib.Math.max.code 2 (some .int) ∈ big) (hf : 1 ≤ R.frames) (hl2 : (st.map fun w => w.category).sum + 13 ≤ R.locals) (hc : cells ≤ R.cells) (hs : slots ≤ R.slots)
    (kk : J v M R K t0 cells slots h top (pc + 3) ls (.int (if x < y then y else x) :: st)) : J v M R K t0 cells slots h top pc ls (.int y :: .int x :: st) := by
  intro p l e s m args below meth c F H locs A hz hH hS hl
  exact va_mmax F.1 F.2.1 (F.2.2.1.trans hl.1.symm) F.2.2.2.1 (F.ht _ w1) (F.ht _ w2) (F.ht _ w3) (F.ht _ w4) hf hl2 hc hs d (kk p l e s m args below meth c F H locs A hz hH hS hl)
end JC
end
