section
-- ===== PART A: goes FIRST, ahead of the names: the tables' words, and 'selects' of the private methods out of them =====
/-- a private method of a class that the tables say can be made, by its rows of tables_1 -/
def lw_okq (q : MethodName × Nat) : Prop := (q.1.cls ≠ "java/lang/invoke/MethodHandle" ∧ q.1.cls ≠ "java/lang/invoke/VarHandle") ∧ Cond.instantiable q.1.cls q.2 ∈ tables_1 ∧ Cond.privateMethod q.1 ∈ tables_1 ∧ Cond.instanceMethod q.1 ∈ tables_1
theorem lw_p0 : lw_okq (⟨"RandomWalks", "countTrees", "()J"⟩, 12) := ⟨⟨by decide +kernel, by decide +kernel⟩, List.mem_of_getElem? (i := 27) (by decide +kernel), List.mem_of_getElem? (i := 370) (by decide +kernel), List.mem_of_getElem? (i := 371) (by decide +kernel)⟩
theorem lw_p1 : lw_okq (⟨"RandomWalks$Equations", "build", "(LRandomWalks$Graph;II[J)V"⟩, 4) := ⟨⟨by decide +kernel, by decide +kernel⟩, List.mem_of_getElem? (i := 231) (by decide +kernel), List.mem_of_getElem? (i := 378) (by decide +kernel), List.mem_of_getElem? (i := 379) (by decide +kernel)⟩
theorem lw_p2 : lw_okq (⟨"RandomWalks$Equations", "putCell", "(IIJ)V"⟩, 4) := ⟨⟨by decide +kernel, by decide +kernel⟩, List.mem_of_getElem? (i := 231) (by decide +kernel), List.mem_of_getElem? (i := 391) (by decide +kernel), List.mem_of_getElem? (i := 392) (by decide +kernel)⟩
theorem lw_p3 : lw_okq (⟨"RandomWalks$Equations", "eliminate", "()Z"⟩, 4) := ⟨⟨by decide +kernel, by decide +kernel⟩, List.mem_of_getElem? (i := 231) (by decide +kernel), List.mem_of_getElem? (i := 395) (by decide +kernel), List.mem_of_getElem? (i := 396) (by decide +kernel)⟩
theorem lw_p4 : lw_okq (⟨"RandomWalks$Equations", "cell", "(II)J"⟩, 4) := ⟨⟨by decide +kernel, by decide +kernel⟩, List.mem_of_getElem? (i := 231) (by decide +kernel), List.mem_of_getElem? (i := 399) (by decide +kernel), List.mem_of_getElem? (i := 400) (by decide +kernel)⟩
theorem lw_p5 : lw_okq (⟨"RandomWalks$Partition", "divideAll", "(LRandomWalks$Graph;)V"⟩, 3) := ⟨⟨by decide +kernel, by decide +kernel⟩, List.mem_of_getElem? (i := 210) (by decide +kernel), List.mem_of_getElem? (i := 457) (by decide +kernel), List.mem_of_getElem? (i := 458) (by decide +kernel)⟩
theorem lw_p6 : lw_okq (⟨"java/lang/Throwable", "fillInStackTrace", "(I)Ljava/lang/Throwable;"⟩, 6) := ⟨⟨by decide +kernel, by decide +kernel⟩, List.mem_of_getElem? (i := 525) (by decide +kernel), List.mem_of_getElem? (i := 523) (by decide +kernel), List.mem_of_getElem? (i := 524) (by decide +kernel)⟩
theorem lw_p7 : lw_okq (⟨"RandomWalks$Tokens", "scanToken", "(II)I"⟩, 6) := ⟨⟨by decide +kernel, by decide +kernel⟩, List.mem_of_getElem? (i := 120) (by decide +kernel), List.mem_of_getElem? (i := 559) (by decide +kernel), List.mem_of_getElem? (i := 560) (by decide +kernel)⟩
theorem lw_p8 : lw_okq (⟨"RandomWalks$Tokens", "scanNumber", "(II)I"⟩, 6) := ⟨⟨by decide +kernel, by decide +kernel⟩, List.mem_of_getElem? (i := 120) (by decide +kernel), List.mem_of_getElem? (i := 566) (by decide +kernel), List.mem_of_getElem? (i := 567) (by decide +kernel)⟩
theorem lw_p9 : lw_okq (⟨"RandomWalks$Tokens", "put", "(III)V"⟩, 6) := ⟨⟨by decide +kernel, by decide +kernel⟩, List.mem_of_getElem? (i := 120) (by decide +kernel), List.mem_of_getElem? (i := 570) (by decide +kernel), List.mem_of_getElem? (i := 571) (by decide +kernel)⟩
theorem lw_p10 : lw_okq (⟨"RandomWalks$Tokens", "scanWord", "(II)I"⟩, 6) := ⟨⟨by decide +kernel, by decide +kernel⟩, List.mem_of_getElem? (i := 120) (by decide +kernel), List.mem_of_getElem? (i := 577) (by decide +kernel), List.mem_of_getElem? (i := 578) (by decide +kernel)⟩
theorem lw_p11 : lw_okq (⟨"RandomWalks$Tokens", "kindOfWord", "(II)I"⟩, 6) := ⟨⟨by decide +kernel, by decide +kernel⟩, List.mem_of_getElem? (i := 120) (by decide +kernel), List.mem_of_getElem? (i := 581) (by decide +kernel), List.mem_of_getElem? (i := 582) (by decide +kernel)⟩
theorem lw_p12 : lw_okq (⟨"RandomWalks$Tokens", "isWord", "(Ljava/lang/String;II)Z"⟩, 6) := ⟨⟨by decide +kernel, by decide +kernel⟩, List.mem_of_getElem? (i := 120) (by decide +kernel), List.mem_of_getElem? (i := 586) (by decide +kernel), List.mem_of_getElem? (i := 587) (by decide +kernel)⟩
theorem lw_p13 : lw_okq (⟨"RandomWalks$Reader", "takeToken", "()V"⟩, 13) := ⟨⟨by decide +kernel, by decide +kernel⟩, List.mem_of_getElem? (i := 114) (by decide +kernel), List.mem_of_getElem? (i := 649) (by decide +kernel), List.mem_of_getElem? (i := 650) (by decide +kernel)⟩
theorem lw_p14 : lw_okq (⟨"RandomWalks$Reader", "fail", "(I)Z"⟩, 13) := ⟨⟨by decide +kernel, by decide +kernel⟩, List.mem_of_getElem? (i := 114) (by decide +kernel), List.mem_of_getElem? (i := 653) (by decide +kernel), List.mem_of_getElem? (i := 654) (by decide +kernel)⟩
theorem lw_p15 : lw_okq (⟨"RandomWalks$Reader", "readNumber", "(II)Z"⟩, 13) := ⟨⟨by decide +kernel, by decide +kernel⟩, List.mem_of_getElem? (i := 114) (by decide +kernel), List.mem_of_getElem? (i := 657) (by decide +kernel), List.mem_of_getElem? (i := 658) (by decide +kernel)⟩
def lw_privs_1 : List (MethodName × Nat) := [(⟨"RandomWalks", "countTrees", "()J"⟩, 12), (⟨"RandomWalks$Equations", "build", "(LRandomWalks$Graph;II[J)V"⟩, 4), (⟨"RandomWalks$Equations", "putCell", "(IIJ)V"⟩, 4), (⟨"RandomWalks$Equations", "eliminate", "()Z"⟩, 4), (⟨"RandomWalks$Equations", "cell", "(II)J"⟩, 4), (⟨"RandomWalks$Partition", "divideAll", "(LRandomWalks$Graph;)V"⟩, 3), (⟨"java/lang/Throwable", "fillInStackTrace", "(I)Ljava/lang/Throwable;"⟩, 6), (⟨"RandomWalks$Tokens", "scanToken", "(II)I"⟩, 6), (⟨"RandomWalks$Tokens", "scanNumber", "(II)I"⟩, 6), (⟨"RandomWalks$Tokens", "put", "(III)V"⟩, 6), (⟨"RandomWalks$Tokens", "scanWord", "(II)I"⟩, 6), (⟨"RandomWalks$Tokens", "kindOfWord", "(II)I"⟩, 6), (⟨"RandomWalks$Tokens", "isWord", "(Ljava/lang/String;II)Z"⟩, 6), (⟨"RandomWalks$Reader", "takeToken", "()V"⟩, 13), (⟨"RandomWalks$Reader", "fail", "(I)Z"⟩, 13), (⟨"RandomWalks$Reader", "readNumber", "(II)Z"⟩, 13)]
theorem lw_r1 : ∀ q ∈ lw_privs_1, lw_okq q := List.forall_mem_cons.mpr ⟨lw_p0, List.forall_mem_cons.mpr ⟨lw_p1, List.forall_mem_cons.mpr ⟨lw_p2, List.forall_mem_cons.mpr ⟨lw_p3, List.forall_mem_cons.mpr ⟨lw_p4, List.forall_mem_cons.mpr ⟨lw_p5, List.forall_mem_cons.mpr ⟨lw_p6, List.forall_mem_cons.mpr ⟨lw_p7, List.forall_mem_cons.mpr ⟨lw_p8, List.forall_mem_cons.mpr ⟨lw_p9, List.forall_mem_cons.mpr ⟨lw_p10, List.forall_mem_cons.mpr ⟨lw_p11, List.forall_mem_cons.mpr ⟨lw_p12, List.forall_mem_cons.mpr ⟨lw_p13, List.forall_mem_cons.mpr ⟨lw_p14, List.forall_mem_cons.mpr ⟨lw_p15, fun _ h => absurd h List.not_mem_nil⟩⟩⟩⟩⟩⟩⟩⟩⟩⟩⟩⟩⟩⟩⟩⟩
theorem lw_p16 : lw_okq (⟨"RandomWalks$Reader", "readSemicolon", "()Z"⟩, 13) := ⟨⟨by decide +kernel, by decide +kernel⟩, List.mem_of_getElem? (i := 114) (by decide +kernel), List.mem_of_getElem? (i := 670) (by decide +kernel), List.mem_of_getElem? (i := 671) (by decide +kernel)⟩
theorem lw_p17 : lw_okq (⟨"RandomWalks$Reader", "readStatement", "()Z"⟩, 13) := ⟨⟨by decide +kernel, by decide +kernel⟩, List.mem_of_getElem? (i := 114) (by decide +kernel), List.mem_of_getElem? (i := 674) (by decide +kernel), List.mem_of_getElem? (i := 675) (by decide +kernel)⟩
theorem lw_p18 : lw_okq (⟨"RandomWalks$Reader", "readEdge", "()Z"⟩, 13) := ⟨⟨by decide +kernel, by decide +kernel⟩, List.mem_of_getElem? (i := 114) (by decide +kernel), List.mem_of_getElem? (i := 678) (by decide +kernel), List.mem_of_getElem? (i := 679) (by decide +kernel)⟩
theorem lw_p19 : lw_okq (⟨"RandomWalks$Reader", "readVertex", "()Z"⟩, 13) := ⟨⟨by decide +kernel, by decide +kernel⟩, List.mem_of_getElem? (i := 114) (by decide +kernel), List.mem_of_getElem? (i := 682) (by decide +kernel), List.mem_of_getElem? (i := 683) (by decide +kernel)⟩
theorem lw_p20 : lw_okq (⟨"RandomWalks$Reader", "readAbsorb", "()Z"⟩, 13) := ⟨⟨by decide +kernel, by decide +kernel⟩, List.mem_of_getElem? (i := 114) (by decide +kernel), List.mem_of_getElem? (i := 695) (by decide +kernel), List.mem_of_getElem? (i := 696) (by decide +kernel)⟩
theorem lw_p21 : lw_okq (⟨"RandomWalks$Reader", "readJoin", "()Z"⟩, 13) := ⟨⟨by decide +kernel, by decide +kernel⟩, List.mem_of_getElem? (i := 114) (by decide +kernel), List.mem_of_getElem? (i := 703) (by decide +kernel), List.mem_of_getElem? (i := 704) (by decide +kernel)⟩
theorem lw_p22 : lw_okq (⟨"RandomWalks$Graph", "numberBlocks", "()V"⟩, 10) := ⟨⟨by decide +kernel, by decide +kernel⟩, List.mem_of_getElem? (i := 35) (by decide +kernel), List.mem_of_getElem? (i := 711) (by decide +kernel), List.mem_of_getElem? (i := 712) (by decide +kernel)⟩
theorem lw_p23 : lw_okq (⟨"RandomWalks$Reader", "readCost", "()Z"⟩, 13) := ⟨⟨by decide +kernel, by decide +kernel⟩, List.mem_of_getElem? (i := 114) (by decide +kernel), List.mem_of_getElem? (i := 715) (by decide +kernel), List.mem_of_getElem? (i := 716) (by decide +kernel)⟩
theorem lw_p24 : lw_okq (⟨"RandomWalks$Reader", "postpone", "(I)V"⟩, 13) := ⟨⟨by decide +kernel, by decide +kernel⟩, List.mem_of_getElem? (i := 114) (by decide +kernel), List.mem_of_getElem? (i := 719) (by decide +kernel), List.mem_of_getElem? (i := 720) (by decide +kernel)⟩
theorem lw_p25 : lw_okq (⟨"RandomWalks$Reader", "readFactor", "()Z"⟩, 13) := ⟨⟨by decide +kernel, by decide +kernel⟩, List.mem_of_getElem? (i := 114) (by decide +kernel), List.mem_of_getElem? (i := 723) (by decide +kernel), List.mem_of_getElem? (i := 724) (by decide +kernel)⟩
theorem lw_p26 : lw_okq (⟨"RandomWalks$Reader", "emit", "(I)V"⟩, 13) := ⟨⟨by decide +kernel, by decide +kernel⟩, List.mem_of_getElem? (i := 114) (by decide +kernel), List.mem_of_getElem? (i := 727) (by decide +kernel), List.mem_of_getElem? (i := 728) (by decide +kernel)⟩
theorem lw_p27 : lw_okq (⟨"RandomWalks$Reader", "release", "(I)V"⟩, 13) := ⟨⟨by decide +kernel, by decide +kernel⟩, List.mem_of_getElem? (i := 114) (by decide +kernel), List.mem_of_getElem? (i := 734) (by decide +kernel), List.mem_of_getElem? (i := 735) (by decide +kernel)⟩
theorem lw_p28 : lw_okq (⟨"RandomWalks", "requireEdge", "(I)V"⟩, 12) := ⟨⟨by decide +kernel, by decide +kernel⟩, List.mem_of_getElem? (i := 27) (by decide +kernel), List.mem_of_getElem? (i := 762) (by decide +kernel), List.mem_of_getElem? (i := 763) (by decide +kernel)⟩
theorem lw_p29 : lw_okq (⟨"RandomWalks$Costs", "evaluate", "([IIII)I"⟩, 2) := ⟨⟨by decide +kernel, by decide +kernel⟩, List.mem_of_getElem? (i := 197) (by decide +kernel), List.mem_of_getElem? (i := 788) (by decide +kernel), List.mem_of_getElem? (i := 789) (by decide +kernel)⟩
theorem lw_p30 : lw_okq (⟨"RandomWalks", "requireVertex", "(I)V"⟩, 12) := ⟨⟨by decide +kernel, by decide +kernel⟩, List.mem_of_getElem? (i := 27) (by decide +kernel), List.mem_of_getElem? (i := 815) (by decide +kernel), List.mem_of_getElem? (i := 816) (by decide +kernel)⟩
theorem lw_p31 : lw_okq (⟨"RandomWalks$Graph", "neighbours", "(I)I"⟩, 10) := ⟨⟨by decide +kernel, by decide +kernel⟩, List.mem_of_getElem? (i := 35) (by decide +kernel), List.mem_of_getElem? (i := 832) (by decide +kernel), List.mem_of_getElem? (i := 833) (by decide +kernel)⟩
def lw_privs_2 : List (MethodName × Nat) := [(⟨"RandomWalks$Reader", "readSemicolon", "()Z"⟩, 13), (⟨"RandomWalks$Reader", "readStatement", "()Z"⟩, 13), (⟨"RandomWalks$Reader", "readEdge", "()Z"⟩, 13), (⟨"RandomWalks$Reader", "readVertex", "()Z"⟩, 13), (⟨"RandomWalks$Reader", "readAbsorb", "()Z"⟩, 13), (⟨"RandomWalks$Reader", "readJoin", "()Z"⟩, 13), (⟨"RandomWalks$Graph", "numberBlocks", "()V"⟩, 10), (⟨"RandomWalks$Reader", "readCost", "()Z"⟩, 13), (⟨"RandomWalks$Reader", "postpone", "(I)V"⟩, 13), (⟨"RandomWalks$Reader", "readFactor", "()Z"⟩, 13), (⟨"RandomWalks$Reader", "emit", "(I)V"⟩, 13), (⟨"RandomWalks$Reader", "release", "(I)V"⟩, 13), (⟨"RandomWalks", "requireEdge", "(I)V"⟩, 12), (⟨"RandomWalks$Costs", "evaluate", "([IIII)I"⟩, 2), (⟨"RandomWalks", "requireVertex", "(I)V"⟩, 12), (⟨"RandomWalks$Graph", "neighbours", "(I)I"⟩, 10)]
theorem lw_r2 : ∀ q ∈ lw_privs_2, lw_okq q := List.forall_mem_cons.mpr ⟨lw_p16, List.forall_mem_cons.mpr ⟨lw_p17, List.forall_mem_cons.mpr ⟨lw_p18, List.forall_mem_cons.mpr ⟨lw_p19, List.forall_mem_cons.mpr ⟨lw_p20, List.forall_mem_cons.mpr ⟨lw_p21, List.forall_mem_cons.mpr ⟨lw_p22, List.forall_mem_cons.mpr ⟨lw_p23, List.forall_mem_cons.mpr ⟨lw_p24, List.forall_mem_cons.mpr ⟨lw_p25, List.forall_mem_cons.mpr ⟨lw_p26, List.forall_mem_cons.mpr ⟨lw_p27, List.forall_mem_cons.mpr ⟨lw_p28, List.forall_mem_cons.mpr ⟨lw_p29, List.forall_mem_cons.mpr ⟨lw_p30, List.forall_mem_cons.mpr ⟨lw_p31, fun _ h => absurd h List.not_mem_nil⟩⟩⟩⟩⟩⟩⟩⟩⟩⟩⟩⟩⟩⟩⟩⟩
theorem lw_p32 : lw_okq (⟨"RandomWalks", "requireWay", "(II)V"⟩, 12) := ⟨⟨by decide +kernel, by decide +kernel⟩, List.mem_of_getElem? (i := 27) (by decide +kernel), List.mem_of_getElem? (i := 870) (by decide +kernel), List.mem_of_getElem? (i := 871) (by decide +kernel)⟩
theorem lw_p33 : lw_okq (⟨"RandomWalks", "gainSteps", "()V"⟩, 12) := ⟨⟨by decide +kernel, by decide +kernel⟩, List.mem_of_getElem? (i := 27) (by decide +kernel), List.mem_of_getElem? (i := 895) (by decide +kernel), List.mem_of_getElem? (i := 896) (by decide +kernel)⟩
theorem lw_p34 : lw_okq (⟨"RandomWalks", "gainCosts", "()V"⟩, 12) := ⟨⟨by decide +kernel, by decide +kernel⟩, List.mem_of_getElem? (i := 27) (by decide +kernel), List.mem_of_getElem? (i := 916) (by decide +kernel), List.mem_of_getElem? (i := 917) (by decide +kernel)⟩
theorem lw_p35 : lw_okq (⟨"RandomWalks", "findCommuteTime", "(II)V"⟩, 12) := ⟨⟨by decide +kernel, by decide +kernel⟩, List.mem_of_getElem? (i := 27) (by decide +kernel), List.mem_of_getElem? (i := 937) (by decide +kernel), List.mem_of_getElem? (i := 938) (by decide +kernel)⟩
theorem lw_p36 : lw_okq (⟨"RandomWalks", "sumOfDegrees", "(I)J"⟩, 12) := ⟨⟨by decide +kernel, by decide +kernel⟩, List.mem_of_getElem? (i := 27) (by decide +kernel), List.mem_of_getElem? (i := 953) (by decide +kernel), List.mem_of_getElem? (i := 954) (by decide +kernel)⟩
theorem lw_p37 : lw_okq (⟨"RandomWalks", "requireAbsorbingWay", "(I)V"⟩, 12) := ⟨⟨by decide +kernel, by decide +kernel⟩, List.mem_of_getElem? (i := 27) (by decide +kernel), List.mem_of_getElem? (i := 970) (by decide +kernel), List.mem_of_getElem? (i := 971) (by decide +kernel)⟩
theorem lw_p38 : lw_okq (⟨"RandomWalks", "findAbsorption", "(II)V"⟩, 12) := ⟨⟨by decide +kernel, by decide +kernel⟩, List.mem_of_getElem? (i := 27) (by decide +kernel), List.mem_of_getElem? (i := 975) (by decide +kernel), List.mem_of_getElem? (i := 976) (by decide +kernel)⟩
theorem lw_p39 : lw_okq (⟨"RandomWalks", "requireBlock", "(I)V"⟩, 12) := ⟨⟨by decide +kernel, by decide +kernel⟩, List.mem_of_getElem? (i := 27) (by decide +kernel), List.mem_of_getElem? (i := 1002) (by decide +kernel), List.mem_of_getElem? (i := 1003) (by decide +kernel)⟩
theorem lw_p40 : lw_okq (⟨"RandomWalks", "requireLumpable", "()V"⟩, 12) := ⟨⟨by decide +kernel, by decide +kernel⟩, List.mem_of_getElem? (i := 27) (by decide +kernel), List.mem_of_getElem? (i := 1007) (by decide +kernel), List.mem_of_getElem? (i := 1008) (by decide +kernel)⟩
theorem lw_p41 : lw_okq (⟨"RandomWalks$Spread", "fillChances", "(LRandomWalks$Graph;)V"⟩, 4) := ⟨⟨by decide +kernel, by decide +kernel⟩, List.mem_of_getElem? (i := 287) (by decide +kernel), List.mem_of_getElem? (i := 1046) (by decide +kernel), List.mem_of_getElem? (i := 1047) (by decide +kernel)⟩
theorem lw_p42 : lw_okq (⟨"RandomWalks$Spread", "chanceAt", "(LRandomWalks$Graph;I)F"⟩, 4) := ⟨⟨by decide +kernel, by decide +kernel⟩, List.mem_of_getElem? (i := 287) (by decide +kernel), List.mem_of_getElem? (i := 1051) (by decide +kernel), List.mem_of_getElem? (i := 1052) (by decide +kernel)⟩
theorem lw_p43 : lw_okq (⟨"RandomWalks$Stroll", "drawStep", "(LRandomWalks$Graph;)I"⟩, 5) := ⟨⟨by decide +kernel, by decide +kernel⟩, List.mem_of_getElem? (i := 265) (by decide +kernel), List.mem_of_getElem? (i := 1071) (by decide +kernel), List.mem_of_getElem? (i := 1072) (by decide +kernel)⟩
theorem lw_p44 : lw_okq (⟨"RandomWalks", "requireWeight", "(I)V"⟩, 12) := ⟨⟨by decide +kernel, by decide +kernel⟩, List.mem_of_getElem? (i := 27) (by decide +kernel), List.mem_of_getElem? (i := 1093) (by decide +kernel), List.mem_of_getElem? (i := 1094) (by decide +kernel)⟩
theorem lw_p45 : lw_okq (⟨"RandomWalksModel", "right", "(ZI)Z"⟩, 29) := ⟨⟨by decide +kernel, by decide +kernel⟩, List.mem_of_getElem? (i := 1146) (by decide +kernel), List.mem_of_getElem? (i := 1254) (by decide +kernel), List.mem_of_getElem? (i := 1255) (by decide +kernel)⟩
theorem lw_p46 : lw_okq (⟨"RandomWalksModel", "texts", "()V"⟩, 29) := ⟨⟨by decide +kernel, by decide +kernel⟩, List.mem_of_getElem? (i := 1146) (by decide +kernel), List.mem_of_getElem? (i := 1258) (by decide +kernel), List.mem_of_getElem? (i := 1259) (by decide +kernel)⟩
theorem lw_p47 : lw_okq (⟨"RandomWalksModel", "takes", "(Ljava/lang/String;)Z"⟩, 29) := ⟨⟨by decide +kernel, by decide +kernel⟩, List.mem_of_getElem? (i := 1146) (by decide +kernel), List.mem_of_getElem? (i := 1263) (by decide +kernel), List.mem_of_getElem? (i := 1264) (by decide +kernel)⟩
def lw_privs_3 : List (MethodName × Nat) := [(⟨"RandomWalks", "requireWay", "(II)V"⟩, 12), (⟨"RandomWalks", "gainSteps", "()V"⟩, 12), (⟨"RandomWalks", "gainCosts", "()V"⟩, 12), (⟨"RandomWalks", "findCommuteTime", "(II)V"⟩, 12), (⟨"RandomWalks", "sumOfDegrees", "(I)J"⟩, 12), (⟨"RandomWalks", "requireAbsorbingWay", "(I)V"⟩, 12), (⟨"RandomWalks", "findAbsorption", "(II)V"⟩, 12), (⟨"RandomWalks", "requireBlock", "(I)V"⟩, 12), (⟨"RandomWalks", "requireLumpable", "()V"⟩, 12), (⟨"RandomWalks$Spread", "fillChances", "(LRandomWalks$Graph;)V"⟩, 4), (⟨"RandomWalks$Spread", "chanceAt", "(LRandomWalks$Graph;I)F"⟩, 4), (⟨"RandomWalks$Stroll", "drawStep", "(LRandomWalks$Graph;)I"⟩, 5), (⟨"RandomWalks", "requireWeight", "(I)V"⟩, 12), (⟨"RandomWalksModel", "right", "(ZI)Z"⟩, 29), (⟨"RandomWalksModel", "texts", "()V"⟩, 29), (⟨"RandomWalksModel", "takes", "(Ljava/lang/String;)Z"⟩, 29)]
theorem lw_r3 : ∀ q ∈ lw_privs_3, lw_okq q := List.forall_mem_cons.mpr ⟨lw_p32, List.forall_mem_cons.mpr ⟨lw_p33, List.forall_mem_cons.mpr ⟨lw_p34, List.forall_mem_cons.mpr ⟨lw_p35, List.forall_mem_cons.mpr ⟨lw_p36, List.forall_mem_cons.mpr ⟨lw_p37, List.forall_mem_cons.mpr ⟨lw_p38, List.forall_mem_cons.mpr ⟨lw_p39, List.forall_mem_cons.mpr ⟨lw_p40, List.forall_mem_cons.mpr ⟨lw_p41, List.forall_mem_cons.mpr ⟨lw_p42, List.forall_mem_cons.mpr ⟨lw_p43, List.forall_mem_cons.mpr ⟨lw_p44, List.forall_mem_cons.mpr ⟨lw_p45, List.forall_mem_cons.mpr ⟨lw_p46, List.forall_mem_cons.mpr ⟨lw_p47, fun _ h => absurd h List.not_mem_nil⟩⟩⟩⟩⟩⟩⟩⟩⟩⟩⟩⟩⟩⟩⟩⟩
theorem lw_p48 : lw_okq (⟨"RandomWalksModel", "sees", "()I"⟩, 29) := ⟨⟨by decide +kernel, by decide +kernel⟩, List.mem_of_getElem? (i := 1146) (by decide +kernel), List.mem_of_getElem? (i := 1267) (by decide +kernel), List.mem_of_getElem? (i := 1268) (by decide +kernel)⟩
theorem lw_p49 : lw_okq (⟨"RandomWalksModel", "fails", "(II)V"⟩, 29) := ⟨⟨by decide +kernel, by decide +kernel⟩, List.mem_of_getElem? (i := 1146) (by decide +kernel), List.mem_of_getElem? (i := 1273) (by decide +kernel), List.mem_of_getElem? (i := 1274) (by decide +kernel)⟩
theorem lw_p50 : lw_okq (⟨"RandomWalksModel", "reads", "(II)I"⟩, 29) := ⟨⟨by decide +kernel, by decide +kernel⟩, List.mem_of_getElem? (i := 1146) (by decide +kernel), List.mem_of_getElem? (i := 1277) (by decide +kernel), List.mem_of_getElem? (i := 1278) (by decide +kernel)⟩
theorem lw_p51 : lw_okq (⟨"RandomWalksModel", "isDigit", "()Z"⟩, 29) := ⟨⟨by decide +kernel, by decide +kernel⟩, List.mem_of_getElem? (i := 1146) (by decide +kernel), List.mem_of_getElem? (i := 1281) (by decide +kernel), List.mem_of_getElem? (i := 1282) (by decide +kernel)⟩
theorem lw_p52 : lw_okq (⟨"RandomWalksModel", "wants", "(I)V"⟩, 29) := ⟨⟨by decide +kernel, by decide +kernel⟩, List.mem_of_getElem? (i := 1146) (by decide +kernel), List.mem_of_getElem? (i := 1287) (by decide +kernel), List.mem_of_getElem? (i := 1288) (by decide +kernel)⟩
theorem lw_p53 : lw_okq (⟨"RandomWalksModel", "statement", "()V"⟩, 29) := ⟨⟨by decide +kernel, by decide +kernel⟩, List.mem_of_getElem? (i := 1146) (by decide +kernel), List.mem_of_getElem? (i := 1291) (by decide +kernel), List.mem_of_getElem? (i := 1292) (by decide +kernel)⟩
theorem lw_p54 : lw_okq (⟨"RandomWalksModel", "edgeLine", "()V"⟩, 29) := ⟨⟨by decide +kernel, by decide +kernel⟩, List.mem_of_getElem? (i := 1146) (by decide +kernel), List.mem_of_getElem? (i := 1296) (by decide +kernel), List.mem_of_getElem? (i := 1297) (by decide +kernel)⟩
theorem lw_p55 : lw_okq (⟨"RandomWalksModel", "readsVertex", "()I"⟩, 29) := ⟨⟨by decide +kernel, by decide +kernel⟩, List.mem_of_getElem? (i := 1146) (by decide +kernel), List.mem_of_getElem? (i := 1300) (by decide +kernel), List.mem_of_getElem? (i := 1301) (by decide +kernel)⟩
theorem lw_p56 : lw_okq (⟨"RandomWalksModel", "absorbLine", "()V"⟩, 29) := ⟨⟨by decide +kernel, by decide +kernel⟩, List.mem_of_getElem? (i := 1146) (by decide +kernel), List.mem_of_getElem? (i := 1309) (by decide +kernel), List.mem_of_getElem? (i := 1310) (by decide +kernel)⟩
theorem lw_p57 : lw_okq (⟨"RandomWalksModel", "joinLine", "()V"⟩, 29) := ⟨⟨by decide +kernel, by decide +kernel⟩, List.mem_of_getElem? (i := 1146) (by decide +kernel), List.mem_of_getElem? (i := 1314) (by decide +kernel), List.mem_of_getElem? (i := 1315) (by decide +kernel)⟩
theorem lw_p58 : lw_okq (⟨"RandomWalksModel", "sum", "()V"⟩, 29) := ⟨⟨by decide +kernel, by decide +kernel⟩, List.mem_of_getElem? (i := 1146) (by decide +kernel), List.mem_of_getElem? (i := 1322) (by decide +kernel), List.mem_of_getElem? (i := 1323) (by decide +kernel)⟩
theorem lw_p59 : lw_okq (⟨"RandomWalksModel", "term", "()V"⟩, 29) := ⟨⟨by decide +kernel, by decide +kernel⟩, List.mem_of_getElem? (i := 1146) (by decide +kernel), List.mem_of_getElem? (i := 1326) (by decide +kernel), List.mem_of_getElem? (i := 1327) (by decide +kernel)⟩
theorem lw_p60 : lw_okq (⟨"RandomWalksModel", "factor", "()V"⟩, 29) := ⟨⟨by decide +kernel, by decide +kernel⟩, List.mem_of_getElem? (i := 1146) (by decide +kernel), List.mem_of_getElem? (i := 1330) (by decide +kernel), List.mem_of_getElem? (i := 1331) (by decide +kernel)⟩
theorem lw_p61 : lw_okq (⟨"RandomWalksModel", "codes", "(II)V"⟩, 29) := ⟨⟨by decide +kernel, by decide +kernel⟩, List.mem_of_getElem? (i := 1146) (by decide +kernel), List.mem_of_getElem? (i := 1334) (by decide +kernel), List.mem_of_getElem? (i := 1335) (by decide +kernel)⟩
theorem lw_p62 : lw_okq (⟨"RandomWalksModel", "change", "()V"⟩, 29) := ⟨⟨by decide +kernel, by decide +kernel⟩, List.mem_of_getElem? (i := 1146) (by decide +kernel), List.mem_of_getElem? (i := 1341) (by decide +kernel), List.mem_of_getElem? (i := 1342) (by decide +kernel)⟩
theorem lw_p63 : lw_okq (⟨"RandomWalksModel", "get", "(I)I"⟩, 29) := ⟨⟨by decide +kernel, by decide +kernel⟩, List.mem_of_getElem? (i := 1146) (by decide +kernel), List.mem_of_getElem? (i := 1345) (by decide +kernel), List.mem_of_getElem? (i := 1346) (by decide +kernel)⟩
def lw_privs_4 : List (MethodName × Nat) := [(⟨"RandomWalksModel", "sees", "()I"⟩, 29), (⟨"RandomWalksModel", "fails", "(II)V"⟩, 29), (⟨"RandomWalksModel", "reads", "(II)I"⟩, 29), (⟨"RandomWalksModel", "isDigit", "()Z"⟩, 29), (⟨"RandomWalksModel", "wants", "(I)V"⟩, 29), (⟨"RandomWalksModel", "statement", "()V"⟩, 29), (⟨"RandomWalksModel", "edgeLine", "()V"⟩, 29), (⟨"RandomWalksModel", "readsVertex", "()I"⟩, 29), (⟨"RandomWalksModel", "absorbLine", "()V"⟩, 29), (⟨"RandomWalksModel", "joinLine", "()V"⟩, 29), (⟨"RandomWalksModel", "sum", "()V"⟩, 29), (⟨"RandomWalksModel", "term", "()V"⟩, 29), (⟨"RandomWalksModel", "factor", "()V"⟩, 29), (⟨"RandomWalksModel", "codes", "(II)V"⟩, 29), (⟨"RandomWalksModel", "change", "()V"⟩, 29), (⟨"RandomWalksModel", "get", "(I)I"⟩, 29)]
theorem lw_r4 : ∀ q ∈ lw_privs_4, lw_okq q := List.forall_mem_cons.mpr ⟨lw_p48, List.forall_mem_cons.mpr ⟨lw_p49, List.forall_mem_cons.mpr ⟨lw_p50, List.forall_mem_cons.mpr ⟨lw_p51, List.forall_mem_cons.mpr ⟨lw_p52, List.forall_mem_cons.mpr ⟨lw_p53, List.forall_mem_cons.mpr ⟨lw_p54, List.forall_mem_cons.mpr ⟨lw_p55, List.forall_mem_cons.mpr ⟨lw_p56, List.forall_mem_cons.mpr ⟨lw_p57, List.forall_mem_cons.mpr ⟨lw_p58, List.forall_mem_cons.mpr ⟨lw_p59, List.forall_mem_cons.mpr ⟨lw_p60, List.forall_mem_cons.mpr ⟨lw_p61, List.forall_mem_cons.mpr ⟨lw_p62, List.forall_mem_cons.mpr ⟨lw_p63, fun _ h => absurd h List.not_mem_nil⟩⟩⟩⟩⟩⟩⟩⟩⟩⟩⟩⟩⟩⟩⟩⟩
theorem lw_p64 : lw_okq (⟨"RandomWalksModel", "put", "(II)V"⟩, 29) := ⟨⟨by decide +kernel, by decide +kernel⟩, List.mem_of_getElem? (i := 1146) (by decide +kernel), List.mem_of_getElem? (i := 1349) (by decide +kernel), List.mem_of_getElem? (i := 1350) (by decide +kernel)⟩
theorem lw_p65 : lw_okq (⟨"RandomWalksModel", "numbers", "()V"⟩, 29) := ⟨⟨by decide +kernel, by decide +kernel⟩, List.mem_of_getElem? (i := 1146) (by decide +kernel), List.mem_of_getElem? (i := 1353) (by decide +kernel), List.mem_of_getElem? (i := 1354) (by decide +kernel)⟩
theorem lw_p66 : lw_okq (⟨"RandomWalksModel", "count", "()I"⟩, 29) := ⟨⟨by decide +kernel, by decide +kernel⟩, List.mem_of_getElem? (i := 1146) (by decide +kernel), List.mem_of_getElem? (i := 1357) (by decide +kernel), List.mem_of_getElem? (i := 1358) (by decide +kernel)⟩
theorem lw_p67 : lw_okq (⟨"RandomWalksModel", "isEdge", "(I)Z"⟩, 29) := ⟨⟨by decide +kernel, by decide +kernel⟩, List.mem_of_getElem? (i := 1146) (by decide +kernel), List.mem_of_getElem? (i := 1377) (by decide +kernel), List.mem_of_getElem? (i := 1378) (by decide +kernel)⟩
theorem lw_p68 : lw_okq (⟨"RandomWalksModel", "lays", "()V"⟩, 29) := ⟨⟨by decide +kernel, by decide +kernel⟩, List.mem_of_getElem? (i := 1146) (by decide +kernel), List.mem_of_getElem? (i := 1382) (by decide +kernel), List.mem_of_getElem? (i := 1383) (by decide +kernel)⟩
theorem lw_p69 : lw_okq (⟨"RandomWalksModel", "costOf", "(III)I"⟩, 29) := ⟨⟨by decide +kernel, by decide +kernel⟩, List.mem_of_getElem? (i := 1146) (by decide +kernel), List.mem_of_getElem? (i := 1386) (by decide +kernel), List.mem_of_getElem? (i := 1387) (by decide +kernel)⟩
theorem lw_p70 : lw_okq (⟨"RandomWalksModel", "starts", "(I)Z"⟩, 29) := ⟨⟨by decide +kernel, by decide +kernel⟩, List.mem_of_getElem? (i := 1146) (by decide +kernel), List.mem_of_getElem? (i := 1399) (by decide +kernel), List.mem_of_getElem? (i := 1400) (by decide +kernel)⟩
theorem lw_p71 : lw_okq (⟨"RandomWalksModel", "isVertex", "(I)Z"⟩, 29) := ⟨⟨by decide +kernel, by decide +kernel⟩, List.mem_of_getElem? (i := 1146) (by decide +kernel), List.mem_of_getElem? (i := 1403) (by decide +kernel), List.mem_of_getElem? (i := 1404) (by decide +kernel)⟩
theorem lw_p72 : lw_okq (⟨"RandomWalksModel", "reachedFrom", "(I)I"⟩, 29) := ⟨⟨by decide +kernel, by decide +kernel⟩, List.mem_of_getElem? (i := 1146) (by decide +kernel), List.mem_of_getElem? (i := 1411) (by decide +kernel), List.mem_of_getElem? (i := 1412) (by decide +kernel)⟩
theorem lw_p73 : lw_okq (⟨"RandomWalksModel", "starts2", "(II)Z"⟩, 29) := ⟨⟨by decide +kernel, by decide +kernel⟩, List.mem_of_getElem? (i := 1146) (by decide +kernel), List.mem_of_getElem? (i := 1422) (by decide +kernel), List.mem_of_getElem? (i := 1423) (by decide +kernel)⟩
theorem lw_p74 : lw_okq (⟨"RandomWalksModel", "step", "(II)V"⟩, 29) := ⟨⟨by decide +kernel, by decide +kernel⟩, List.mem_of_getElem? (i := 1146) (by decide +kernel), List.mem_of_getElem? (i := 1426) (by decide +kernel), List.mem_of_getElem? (i := 1427) (by decide +kernel)⟩
theorem lw_p75 : lw_okq (⟨"RandomWalksModel", "fraction", "(JJ)V"⟩, 29) := ⟨⟨by decide +kernel, by decide +kernel⟩, List.mem_of_getElem? (i := 1146) (by decide +kernel), List.mem_of_getElem? (i := 1430) (by decide +kernel), List.mem_of_getElem? (i := 1431) (by decide +kernel)⟩
theorem lw_p76 : lw_okq (⟨"RandomWalksModel", "told", "(Z)J"⟩, 29) := ⟨⟨by decide +kernel, by decide +kernel⟩, List.mem_of_getElem? (i := 1146) (by decide +kernel), List.mem_of_getElem? (i := 1437) (by decide +kernel), List.mem_of_getElem? (i := 1438) (by decide +kernel)⟩
theorem lw_p77 : lw_okq (⟨"RandomWalksModel", "canGo", "(II)Z"⟩, 29) := ⟨⟨by decide +kernel, by decide +kernel⟩, List.mem_of_getElem? (i := 1146) (by decide +kernel), List.mem_of_getElem? (i := 1445) (by decide +kernel), List.mem_of_getElem? (i := 1446) (by decide +kernel)⟩
theorem lw_p78 : lw_okq (⟨"RandomWalksModel", "meanTo", "(IIZ)V"⟩, 29) := ⟨⟨by decide +kernel, by decide +kernel⟩, List.mem_of_getElem? (i := 1146) (by decide +kernel), List.mem_of_getElem? (i := 1449) (by decide +kernel), List.mem_of_getElem? (i := 1450) (by decide +kernel)⟩
theorem lw_p79 : lw_okq (⟨"RandomWalksModel", "begins", "(II)V"⟩, 29) := ⟨⟨by decide +kernel, by decide +kernel⟩, List.mem_of_getElem? (i := 1146) (by decide +kernel), List.mem_of_getElem? (i := 1453) (by decide +kernel), List.mem_of_getElem? (i := 1454) (by decide +kernel)⟩
def lw_privs_5 : List (MethodName × Nat) := [(⟨"RandomWalksModel", "put", "(II)V"⟩, 29), (⟨"RandomWalksModel", "numbers", "()V"⟩, 29), (⟨"RandomWalksModel", "count", "()I"⟩, 29), (⟨"RandomWalksModel", "isEdge", "(I)Z"⟩, 29), (⟨"RandomWalksModel", "lays", "()V"⟩, 29), (⟨"RandomWalksModel", "costOf", "(III)I"⟩, 29), (⟨"RandomWalksModel", "starts", "(I)Z"⟩, 29), (⟨"RandomWalksModel", "isVertex", "(I)Z"⟩, 29), (⟨"RandomWalksModel", "reachedFrom", "(I)I"⟩, 29), (⟨"RandomWalksModel", "starts2", "(II)Z"⟩, 29), (⟨"RandomWalksModel", "step", "(II)V"⟩, 29), (⟨"RandomWalksModel", "fraction", "(JJ)V"⟩, 29), (⟨"RandomWalksModel", "told", "(Z)J"⟩, 29), (⟨"RandomWalksModel", "canGo", "(II)Z"⟩, 29), (⟨"RandomWalksModel", "meanTo", "(IIZ)V"⟩, 29), (⟨"RandomWalksModel", "begins", "(II)V"⟩, 29)]
theorem lw_r5 : ∀ q ∈ lw_privs_5, lw_okq q := List.forall_mem_cons.mpr ⟨lw_p64, List.forall_mem_cons.mpr ⟨lw_p65, List.forall_mem_cons.mpr ⟨lw_p66, List.forall_mem_cons.mpr ⟨lw_p67, List.forall_mem_cons.mpr ⟨lw_p68, List.forall_mem_cons.mpr ⟨lw_p69, List.forall_mem_cons.mpr ⟨lw_p70, List.forall_mem_cons.mpr ⟨lw_p71, List.forall_mem_cons.mpr ⟨lw_p72, List.forall_mem_cons.mpr ⟨lw_p73, List.forall_mem_cons.mpr ⟨lw_p74, List.forall_mem_cons.mpr ⟨lw_p75, List.forall_mem_cons.mpr ⟨lw_p76, List.forall_mem_cons.mpr ⟨lw_p77, List.forall_mem_cons.mpr ⟨lw_p78, List.forall_mem_cons.mpr ⟨lw_p79, fun _ h => absurd h List.not_mem_nil⟩⟩⟩⟩⟩⟩⟩⟩⟩⟩⟩⟩⟩⟩⟩⟩
theorem lw_p80 : lw_okq (⟨"RandomWalksModel", "further", "(IJ)V"⟩, 29) := ⟨⟨by decide +kernel, by decide +kernel⟩, List.mem_of_getElem? (i := 1146) (by decide +kernel), List.mem_of_getElem? (i := 1457) (by decide +kernel), List.mem_of_getElem? (i := 1458) (by decide +kernel)⟩
theorem lw_p81 : lw_okq (⟨"RandomWalksModel", "solves", "(I)V"⟩, 29) := ⟨⟨by decide +kernel, by decide +kernel⟩, List.mem_of_getElem? (i := 1146) (by decide +kernel), List.mem_of_getElem? (i := 1461) (by decide +kernel), List.mem_of_getElem? (i := 1462) (by decide +kernel)⟩
theorem lw_p82 : lw_okq (⟨"RandomWalksModel", "determinantWith", "(I)J"⟩, 29) := ⟨⟨by decide +kernel, by decide +kernel⟩, List.mem_of_getElem? (i := 1146) (by decide +kernel), List.mem_of_getElem? (i := 1465) (by decide +kernel), List.mem_of_getElem? (i := 1466) (by decide +kernel)⟩
theorem lw_p83 : lw_okq (⟨"RandomWalksModel", "determinant", "(I)J"⟩, 29) := ⟨⟨by decide +kernel, by decide +kernel⟩, List.mem_of_getElem? (i := 1146) (by decide +kernel), List.mem_of_getElem? (i := 1469) (by decide +kernel), List.mem_of_getElem? (i := 1470) (by decide +kernel)⟩
theorem lw_p84 : lw_okq (⟨"RandomWalksModel", "commutes", "(II)V"⟩, 29) := ⟨⟨by decide +kernel, by decide +kernel⟩, List.mem_of_getElem? (i := 1146) (by decide +kernel), List.mem_of_getElem? (i := 1481) (by decide +kernel), List.mem_of_getElem? (i := 1482) (by decide +kernel)⟩
theorem lw_p85 : lw_okq (⟨"RandomWalksModel", "treesNow", "()J"⟩, 29) := ⟨⟨by decide +kernel, by decide +kernel⟩, List.mem_of_getElem? (i := 1146) (by decide +kernel), List.mem_of_getElem? (i := 1493) (by decide +kernel), List.mem_of_getElem? (i := 1494) (by decide +kernel)⟩
theorem lw_p86 : lw_okq (⟨"RandomWalksModel", "blocksNow", "()I"⟩, 29) := ⟨⟨by decide +kernel, by decide +kernel⟩, List.mem_of_getElem? (i := 1146) (by decide +kernel), List.mem_of_getElem? (i := 1517) (by decide +kernel), List.mem_of_getElem? (i := 1518) (by decide +kernel)⟩
theorem lw_p87 : lw_okq (⟨"RandomWalksModel", "firstParted", "()I"⟩, 29) := ⟨⟨by decide +kernel, by decide +kernel⟩, List.mem_of_getElem? (i := 1146) (by decide +kernel), List.mem_of_getElem? (i := 1525) (by decide +kernel), List.mem_of_getElem? (i := 1526) (by decide +kernel)⟩
theorem lw_p88 : lw_okq (⟨"RandomWalksModel", "areUnlike", "(III)Z"⟩, 29) := ⟨⟨by decide +kernel, by decide +kernel⟩, List.mem_of_getElem? (i := 1146) (by decide +kernel), List.mem_of_getElem? (i := 1529) (by decide +kernel), List.mem_of_getElem? (i := 1530) (by decide +kernel)⟩
theorem lw_p89 : lw_okq (⟨"RandomWalksModel", "toBlock", "(II)I"⟩, 29) := ⟨⟨by decide +kernel, by decide +kernel⟩, List.mem_of_getElem? (i := 1146) (by decide +kernel), List.mem_of_getElem? (i := 1533) (by decide +kernel), List.mem_of_getElem? (i := 1534) (by decide +kernel)⟩
theorem lw_p90 : lw_okq (⟨"RandomWalksModel", "by", "(I)I"⟩, 29) := ⟨⟨by decide +kernel, by decide +kernel⟩, List.mem_of_getElem? (i := 1146) (by decide +kernel), List.mem_of_getElem? (i := 1537) (by decide +kernel), List.mem_of_getElem? (i := 1538) (by decide +kernel)⟩
theorem lw_p91 : lw_okq (⟨"RandomWalksModel", "areBlocks", "(II)Z"⟩, 29) := ⟨⟨by decide +kernel, by decide +kernel⟩, List.mem_of_getElem? (i := 1146) (by decide +kernel), List.mem_of_getElem? (i := 1549) (by decide +kernel), List.mem_of_getElem? (i := 1550) (by decide +kernel)⟩
theorem lw_p92 : lw_okq (⟨"RandomWalksModel", "firstOf", "(I)I"⟩, 29) := ⟨⟨by decide +kernel, by decide +kernel⟩, List.mem_of_getElem? (i := 1146) (by decide +kernel), List.mem_of_getElem? (i := 1553) (by decide +kernel), List.mem_of_getElem? (i := 1554) (by decide +kernel)⟩
theorem lw_p93 : lw_okq (⟨"RandomWalksModel", "setOf", "(I)I"⟩, 29) := ⟨⟨by decide +kernel, by decide +kernel⟩, List.mem_of_getElem? (i := 1146) (by decide +kernel), List.mem_of_getElem? (i := 1561) (by decide +kernel), List.mem_of_getElem? (i := 1562) (by decide +kernel)⟩
theorem lw_p94 : lw_okq (⟨"RandomWalksModel", "divides", "()V"⟩, 29) := ⟨⟨by decide +kernel, by decide +kernel⟩, List.mem_of_getElem? (i := 1146) (by decide +kernel), List.mem_of_getElem? (i := 1609) (by decide +kernel), List.mem_of_getElem? (i := 1610) (by decide +kernel)⟩
def lw_privs_6 : List (MethodName × Nat) := [(⟨"RandomWalksModel", "further", "(IJ)V"⟩, 29), (⟨"RandomWalksModel", "solves", "(I)V"⟩, 29), (⟨"RandomWalksModel", "determinantWith", "(I)J"⟩, 29), (⟨"RandomWalksModel", "determinant", "(I)J"⟩, 29), (⟨"RandomWalksModel", "commutes", "(II)V"⟩, 29), (⟨"RandomWalksModel", "treesNow", "()J"⟩, 29), (⟨"RandomWalksModel", "blocksNow", "()I"⟩, 29), (⟨"RandomWalksModel", "firstParted", "()I"⟩, 29), (⟨"RandomWalksModel", "areUnlike", "(III)Z"⟩, 29), (⟨"RandomWalksModel", "toBlock", "(II)I"⟩, 29), (⟨"RandomWalksModel", "by", "(I)I"⟩, 29), (⟨"RandomWalksModel", "areBlocks", "(II)Z"⟩, 29), (⟨"RandomWalksModel", "firstOf", "(I)I"⟩, 29), (⟨"RandomWalksModel", "setOf", "(I)I"⟩, 29), (⟨"RandomWalksModel", "divides", "()V"⟩, 29)]
theorem lw_r6 : ∀ q ∈ lw_privs_6, lw_okq q := List.forall_mem_cons.mpr ⟨lw_p80, List.forall_mem_cons.mpr ⟨lw_p81, List.forall_mem_cons.mpr ⟨lw_p82, List.forall_mem_cons.mpr ⟨lw_p83, List.forall_mem_cons.mpr ⟨lw_p84, List.forall_mem_cons.mpr ⟨lw_p85, List.forall_mem_cons.mpr ⟨lw_p86, List.forall_mem_cons.mpr ⟨lw_p87, List.forall_mem_cons.mpr ⟨lw_p88, List.forall_mem_cons.mpr ⟨lw_p89, List.forall_mem_cons.mpr ⟨lw_p90, List.forall_mem_cons.mpr ⟨lw_p91, List.forall_mem_cons.mpr ⟨lw_p92, List.forall_mem_cons.mpr ⟨lw_p93, List.forall_mem_cons.mpr ⟨lw_p94, fun _ h => absurd h List.not_mem_nil⟩⟩⟩⟩⟩⟩⟩⟩⟩⟩⟩⟩⟩⟩⟩
def lw_privs : List (MethodName × Nat) := lw_privs_1 ++ (lw_privs_2 ++ (lw_privs_3 ++ (lw_privs_4 ++ (lw_privs_5 ++ (lw_privs_6)))))
def lw_tbl : List Cond := k2_sels lw_privs ++ tables_1
theorem lw_privs_ok : ∀ q ∈ lw_privs, lw_okq q := by
  show ∀ q ∈ lw_privs_1 ++ (lw_privs_2 ++ (lw_privs_3 ++ (lw_privs_4 ++ (lw_privs_5 ++ (lw_privs_6))))), lw_okq q
  exact List.forall_mem_append.mpr ⟨lw_r1, List.forall_mem_append.mpr ⟨lw_r2, List.forall_mem_append.mpr ⟨lw_r3, List.forall_mem_append.mpr ⟨lw_r4, List.forall_mem_append.mpr ⟨lw_r5, lw_r6⟩⟩⟩⟩⟩
/-- the streams that the claim lets the run draw from -/
abbrev lw_cs : List Choice := [Jvm.Choice.named "NaN.bits"]
theorem lw_bits : nanBits ∈ lw_cs := by first | decide | exact List.mem_cons_self | simp [lw_cs, nanBits]
end
section
/-! ===== BEGIN words of one list among another's, by their places ===== -/
theorem goodIn_r {big : List Cond} (ws : List Cond) (ps : List Nat) (hp : ws = ps.filterMap (fun i => big[i]?)) (h : ws.all goodWord = true) : GoodIn big ws := by
  intro w hw
  have h1 := List.all_eq_true.mp h w hw
  rw [hp] at hw
  obtain ⟨i, -, hi⟩ := List.mem_filterMap.mp hw
  have hm : w ∈ big := by first | exact List.mem_of_getElem? hi | exact List.getElem?_mem hi
  exact ⟨hm, good_of_word h1⟩
theorem goodIn_app {big a b : List Cond} (ha : GoodIn big a) (hb : GoodIn big b) : GoodIn big (a ++ b) := fun w h => (List.mem_append.mp h).elim (ha w) (hb w)
theorem goodIn_ca {big a b : List Cond} {c : Cond} (ha : GoodIn big (c :: a)) (hb : GoodIn big b) : GoodIn big (c :: (a ++ b)) := fun w h => (List.mem_cons.mp h).elim (fun e => ha w (List.mem_cons.mpr (Or.inl e))) (fun h => (List.mem_append.mp h).elim (fun h => ha w (List.mem_cons.mpr (Or.inr h))) (hb w))
theorem goodIn_sub {big ws : List Cond} (hm : ∀ w ∈ ws, w ∈ big) (h : ws.all goodWord = true) : GoodIn big ws := fun w hw => ⟨hm w hw, good_of_word (List.all_eq_true.mp h w hw)⟩
/-! ===== END ===== -/

/-! ===== BEGIN exceptions that leave a method, and their catching by the caller (launches without stack traces) ===== -/
section VXA
/-! The laws vx_back, vx_callV, vx_callS, vx_callSW, vx_throw0, vx_throwS follow proofs of the library, with one case more: JvmDerived/Free/Laws.lean (Back.of_free), Shelf42/LK1.lean (callV, callS), Shelf/KitTraced.lean (throwNew0V, throwNewS). -/
/-- where a method has thrown q: the class by its name, the cell, what was written, the world -/
def vx_T (XC : String → State → State → Prop) (st : State) (q : Addr) (t : State) (mc ms : Nat) (free : Addr → Prop) : Prop :=
  ∃ (E : String) (ce : Cell) (L : List Loc), XC E st t ∧ t.heap[q]? = some ce ∧ ce.vm = .none ∧ st.vm.findClass E = some ce.cls ∧ st.WarmedH t.vm ∧ st.sameButNew ({ t with vm := st.vm } : State) L mc ms ∧ ∀ z ∈ L, free z.base
def vx_Q (Qc : Array Value → State → Outcome → State → Prop) (XC : String → State → State → Prop) (mc ms : Nat) (free : Addr → Prop) : Array Value → State → Outcome → State → Prop := fun a st o t =>
  (Qc a st o t ∧ ∃ L, FrameEnd st o t L mc ms ∧ ∀ q ∈ L, free q.base) ∨ ∃ q, o = .threw q ∧ vx_T XC st q t mc ms free
/-- a callee that returns or throws -/
def vx_Met (l : Launch) (y : MethodName) (ws : List Cond) (rm : Room) (Pc : Array Value → State → Prop) (Qc : Array Value → State → Outcome → State → Prop) (XC : String → State → State → Prop) (mc ms : Nat) (free : Addr → Prop) : Prop :=
  MetFree l y (headSpec ws rm) Pc (fun _ _ _ _ _ => True) (vx_Q Qc XC mc ms free)
def vx_Post (XC : String → State → State → Prop) (mc ms : Nat) (free : Addr → Prop) : Pt → Array Value → Addr → Pt → Prop := fun A a q B =>
  ∃ (g : JFrame) (mk : MethodId) (t : State) (L : List Loc) (E : String) (ce : Cell), B.U.heap = t.heap ∧ B.U.vm = t.vm ∧ XC E (A.U.calling g mk a) t ∧ t.heap[q]? = some ce ∧ ce.vm = .none ∧ A.U.vm.findClass E = some ce.cls ∧ B.locs = A.locs ++ L ∧ (∀ z ∈ L, free z.base) ∧ B.cells = A.cells + mc ∧ B.slots = A.slots + ms
def vx_Back (l : Launch) (R : Room) (p : Program) (e : Env) (below : List Frame) (s : State) (sargs : Array Value) (y : MethodName) (len W9 : Nat)
    (Pre : Pt → Array Value → Prop) (Post : Pt → Array Value → Option Value → Pt → Prop) (PostX : Pt → Array Value → Addr → Pt → Prop) : Prop :=
  ∀ (m : MethodId) (meth : Method) (c : Code) (A : Pt) (g : JFrame) (ig : Instr) (mk : MethodId) (a : Array Value),
    Stand p l e R s m sargs below meth c A.U A.locs A.cells A.slots → g.method = m → g.locals.size = c.maxLocals → decode c.code g.pc = .ok (ig, len) →
    2 * g.monitorRoom + (g.stack.map fun v => v.category).sum ≤ W9 → A.U.methodNamed? y = some mk → Pre A a →
    (∃ (v : Option Value) (B : Pt), Stand p l e R s m sargs below meth c B.U B.locs B.cells B.slots ∧ Post A a v B ∧
      Steps p.tables e below (doInvoke e (A.U.setTop g) [] mk a).1 (B.U.setTop { g with pc := g.pc + len, stack := v.toList ++ g.stack })) ∨
    (∃ (q : Addr) (B : Pt), Stand p l e R s m sargs below meth c B.U B.locs B.cells B.slots ∧ PostX A a q B ∧
      Steps p.tables e below (doInvoke e (A.U.setTop g) [] mk a).1 ((B.U.setTop g).pushFrame (.throwing q)))
section Payer
variable {l : Launch} {R : Room} {p : Program} {e : Env} {below : List Frame} {s : State} {sargs : Array Value} {y : MethodName} {len W9 : Nat}
theorem vx_back {ws : List Cond} {rm : Room} {Pc : Array Value → State → Prop} {Qc : Array Value → State → Outcome → State → Prop} {XC : String → State → State → Prop} {mc ms : Nat} {free : Addr → Prop} {bytes : ByteArray} {maxL : Nat} {ret : Option FieldType}
    (hM : vx_Met l y ws rm Pc Qc XC mc ms free) (hblind : FrameBlind Pc) (hrc : rm.cells = mc) (hrs : rm.slots = ms)
    (hframes : rm.frames + 1 ≤ R.frames) (hlocals : W9 + (maxL + 11) + rm.locals ≤ R.locals)
    (hws : ∀ w ∈ ws, ∀ a' U, s.WarmedH U.vm → w.before a' U = true) (hcode : Cond.code y bytes maxL ret ∈ ws) (hinit : ∀ a' U, s.WarmedH U.vm → (Cond.initialized y.cls).before a' U = true) :
    vx_Back l R p e below s sargs y len W9 (PreOf R mc ms Pc) (PostOf Qc mc ms free) (vx_Post XC mc ms free) := by
  intro m meth c A g ig mk a X hg hsize hdg hW hn hp
  have h1 : (headSpec ws rm).pre.before a A.U = true := atoms_intro fun w hw => hws w hw _ _ X.warmed
  have h2 : (Cond.code y bytes maxL ret).before a A.U = true := hws _ hcode _ _ X.warmed
  have h3 : (Cond.initialized y.cls).before a A.U = true := hinit _ _ X.warmed
  have h4 : A.cells + (headSpec ws rm).room.cells ≤ R.cells := by rw [show (headSpec ws rm).room.cells = mc from hrc]; exact hp.1
  have h5 : A.slots + (headSpec ws rm).room.slots ≤ R.slots := by rw [show (headSpec ws rm).room.slots = ms from hrs]; exact hp.2.1
  have hPc : Pc a (A.U.calling g mk a) := hblind _ _ _ _ hp.2.2
  obtain ⟨U, Ls, c0, s0⟩ := A
  dsimp only [Pt.U, Pt.locs, Pt.cells, Pt.slots] at h1 h2 h3 h4 h5 X hn hPc ⊢
  obtain ⟨methY, cY, hmY, hcY, -, hlY, -, -, -, -⟩ := Cond.code_spec hn h2
  obtain ⟨kY, hkY, -⟩ := className_of_methodNamed hn
  have hinitY : kY.init = .initialized := Cond.initialized_spec (findClass_of_methodNamed hn) hkY h3
  have h : At U g.method c below := by rw [hg]; exact X.here
  have hlocals9 : W9 + (maxL + 11) + (headSpec ws rm).room.locals ≤ R.locals := hlocals
  have happ : (headSpec ws rm).appliesLoose y e.platform (U.calling g mk a) = true :=
    Spec.appliesLoose_calling (g := g) h hdg hn hkY hinitY
      (X.room_calling (g := g) (R' := (headSpec ws rm).room) hsize hmY hcY hframes (by rw [hlY]; omega) h4 h5) h1
  obtain ⟨mid, hmid⟩ := h.above
  have hfr : (U.setTop g).frames = (.java g :: mid) ++ below := by rw [State.frames_setTop' g h.top, hmid]; rfl
  obtain ⟨o, s₂, hsteps, -, hend, hq⟩ := Steps.callFree hM p X.admits X.cas X.clock (acts := []) hfr happ hPc trivial
  have hq' : vx_Q Qc XC mc ms free a (U.calling g mk a) o s₂ := hq
  rw [State.frames_setTop' g h.top] at hend
  obtain ⟨g₀, hg0⟩ := Option.isSome_iff_exists.mp h.top
  obtain ⟨r, hr⟩ := State.topJava?_eq_some.mp hg0
  have hr' : (({ U with heap := s₂.heap, slotsUsed := s₂.slotsUsed } : State).setVm s₂.vm).frames = .java g₀ :: r := hr
  rcases hq' with ⟨hqc, L, hfe, hL⟩ | ⟨q, rfl, E, ce, L, hx, hce, hcv, hcl, hW₂, hsm, hL⟩
  · obtain ⟨⟨v, rfl⟩, hW₂, e2, q2, q3, q4, q5, q6⟩ := id hfe
    have e3 : s₂ = ({ (U.calling g mk a).setFrames s₂.frames with heap := s₂.heap, slotsUsed := s₂.slotsUsed } : State).setVm s₂.vm := by
      have : s₂ = ({ s₂ with vm := (U.calling g mk a).vm } : State).setVm s₂.vm := rfl
      rw [e2] at this
      exact this
    obtain ⟨c₂, i₂, len₂, hc₂, hd₂, hf₂⟩ := hend
    have hW' : U.WarmedH s₂.vm := hW₂
    have hcc : c₂ = c := by
      have h1 : s₂.code? g.method = U.code? g.method := by
        rw [State.code?_eq, State.code?_eq, hW'.alike.method?]
      exact Option.some.inj (hc₂.symm.trans (h1.trans h.code))
    subst hcc
    have hlen : len₂ = len := by rw [hdg] at hd₂; cases hd₂; rfl
    subst hlen
    have hs₂ : s₂ = (({ U with heap := s₂.heap, slotsUsed := s₂.slotsUsed } : State).setVm s₂.vm).setTop { g with pc := g.pc + len₂, stack := v.toList ++ g.stack } := by
      refine e3.trans ?_
      rw [hf₂, State.calling_eq h.top, State.setFrames_setFrames, State.setTop_of_frames _ hr', hr]
      rfl
    have hsame : U.sameButNew ({ U with heap := s₂.heap, slotsUsed := s₂.slotsUsed } : State) L mc ms := by
      refine ⟨?_, q2, q3, q4, q5, q6⟩
      obtain ⟨t, ht, -⟩ := State.frames_cons hr
      show ({ U with heap := s₂.heap, slotsUsed := s₂.slotsUsed } : State) = { U.setFrames U.frames with heap := s₂.heap, slotsUsed := s₂.slotsUsed }
      rw [State.setFrames_self ht]
    subst hg
    refine Or.inl ⟨v, ⟨(({ U with heap := s₂.heap, slotsUsed := s₂.slotsUsed } : State).setVm s₂.vm), Ls ++ L, c0 + mc, s0 + ms⟩,
      ⟨X.admits, X.cas, X.clock, X.frames, X.room, X.hears, X.method, X.code, (X.here.setHeapUsed s₂.heap s₂.slotsUsed).setVm hW'.alike, X.tail, State.WarmedH.trans X.warmed hW', X.limits, X.bytes, X.same.trans (hsame.setVm s.vm)⟩,
      ⟨g, mk, s₂, L, rfl, rfl, hqc, rfl, hL, rfl, rfl⟩, ?_⟩
    show Steps p.tables e below _ ((({ U with heap := s₂.heap, slotsUsed := s₂.slotsUsed } : State).setVm s₂.vm).setTop { g with pc := g.pc + len₂, stack := v.toList ++ g.stack })
    rw [← hs₂]
    exact hsteps
  · obtain ⟨e2, q2, q3, q4, q5, q6⟩ := id hsm
    have e3 : s₂ = ({ (U.calling g mk a).setFrames s₂.frames with heap := s₂.heap, slotsUsed := s₂.slotsUsed } : State).setVm s₂.vm := by
      have : s₂ = ({ s₂ with vm := (U.calling g mk a).vm } : State).setVm s₂.vm := rfl
      rw [e2] at this
      exact this
    have hf₂ : s₂.frames = .throwing q :: .java g :: U.frames.tail := hend
    have hW' : U.WarmedH s₂.vm := hW₂
    have hs₂ : s₂ = ((({ U with heap := s₂.heap, slotsUsed := s₂.slotsUsed } : State).setVm s₂.vm).setTop g).pushFrame (.throwing q) := by
      refine e3.trans ?_
      rw [hf₂, State.calling_eq h.top, State.setFrames_setFrames, State.pushFrame, State.frames_setTop _ hr', State.setTop_of_frames _ hr', State.setFrames_setFrames, hr]
      rfl
    have hsame : U.sameButNew ({ U with heap := s₂.heap, slotsUsed := s₂.slotsUsed } : State) L mc ms := by
      refine ⟨?_, q2, q3, q4, q5, q6⟩
      obtain ⟨t, ht, -⟩ := State.frames_cons hr
      show ({ U with heap := s₂.heap, slotsUsed := s₂.slotsUsed } : State) = { U.setFrames U.frames with heap := s₂.heap, slotsUsed := s₂.slotsUsed }
      rw [State.setFrames_self ht]
    subst hg
    refine Or.inr ⟨q, ⟨(({ U with heap := s₂.heap, slotsUsed := s₂.slotsUsed } : State).setVm s₂.vm), Ls ++ L, c0 + mc, s0 + ms⟩,
      ⟨X.admits, X.cas, X.clock, X.frames, X.room, X.hears, X.method, X.code, (X.here.setHeapUsed s₂.heap s₂.slotsUsed).setVm hW'.alike, X.tail, State.WarmedH.trans X.warmed hW', X.limits, X.bytes, X.same.trans (hsame.setVm s.vm)⟩,
      ⟨g, mk, s₂, L, E, ce, rfl, rfl, hx, hce, hcv, hcl, rfl, hL, rfl, rfl⟩, ?_⟩
    show Steps p.tables e below _ (((({ U with heap := s₂.heap, slotsUsed := s₂.slotsUsed } : State).setVm s₂.vm).setTop g).pushFrame (.throwing q))
    rw [← hs₂]
    exact hsteps
end Payer
section Calls
variable {p : Program} {l : Launch} {e : Env} {R : Room} {s : State} {m : MethodId} {args : Array Value} {below : List Frame} {meth : Method} {c : Code} {T : State} {locs : List Loc} {cells slots : Nat}
theorem vx_callV (X : Stand p l e R s m args below meth c T locs cells slots) (hexec : p.tables.exec = Jvm.exec) {own C : String} {index : Nat} {y : MethodName} {bytes : ByteArray} {maxL : Nat} {ret : Option FieldType}
    (hown : s.vm.findClass own = some m.cls) (hlink : (Cond.methodLink own index y).before args s = true) (hinst : (Cond.instanceMethod y).before args s = true) (hsel : (Cond.selects C y y).before args s = true)
    (hcode : (Cond.code y bytes maxL ret).before args s = true) (hy : y.cls ≠ "java/lang/invoke/MethodHandle" ∧ y.cls ≠ "java/lang/invoke/VarHandle")
    {W9 : Nat} {Pre : Pt → Array Value → Prop} {Post : Pt → Array Value → Option Value → Pt → Prop} {PostX : Pt → Array Value → Addr → Pt → Prop} (hK : vx_Back l R p e below s args y 3 W9 Pre Post PostX)
    {b : Addr} {cellB : Cell} (hcell : T.heap[b]? = some cellB) (hobj : cellB.vm.isStatics = false) (hcls : s.vm.findClass C = some cellB.cls)
    {g : JFrame} (hg : g.method = m) (hsize : g.locals.size = c.maxLocals) {argsL rest : List Value} (hlen : ∀ sig, parseMethodDescriptor y.desc = some sig → argsL.length = sig.parameters.length)
    (hstack : g.stack = argsL.reverse ++ .ref b :: rest) (hW : 2 * g.monitorRoom + (rest.map fun v => v.category).sum ≤ W9) (hdg : decode c.code g.pc = .ok (.invokevirtual index, 3))
    (hpre : ∀ vm₁, s.WarmedH vm₁ → Pre ⟨T.setVm vm₁, locs, cells, slots⟩ (Value.ref b :: argsL).toArray) :
    (∃ (v : Option Value) (vm₁ : Vm) (B : Pt), s.WarmedH vm₁ ∧ Stand p l e R s m args below meth c B.U B.locs B.cells B.slots ∧ Post ⟨T.setVm vm₁, locs, cells, slots⟩ (Value.ref b :: argsL).toArray v B ∧
      ∀ target, Steps p.tables e below (B.U.setTop { g with pc := g.pc + 3, stack := v.toList ++ rest }) target → Steps p.tables e below (T.setTop g) target) ∨
    (∃ (q : Addr) (vm₁ : Vm) (B : Pt), s.WarmedH vm₁ ∧ Stand p l e R s m args below meth c B.U B.locs B.cells B.slots ∧ PostX ⟨T.setVm vm₁, locs, cells, slots⟩ (Value.ref b :: argsL).toArray q B ∧
      Steps p.tables e below (T.setTop g) ((B.U.setTop { g with stack := rest }).pushFrame (.throwing q))) := by
  obtain ⟨mk, methM, hnamed, hmethM, hstM, habM⟩ := Cond.instanceMethod_spec hinst
  obtain ⟨methM', cM, hmethM', -, -, -, -, -, -, hsigM⟩ := Cond.code_spec hnamed hcode
  cases hmethM.symm.trans hmethM'
  obtain ⟨c2, r2, m2, q1, q2, q3, q4, kP, hkP, hkPi⟩ := Cond.selects_spec hsel
  cases hcls.symm.trans q1
  cases (State.methodFound?_of_named hnamed hy).symm.trans q2
  cases hnamed.symm.trans q3
  have hselP : selectMethod e.platform s.vm cellB.cls mk = .method mk := by rw [Launch.admits_selectMethod X.admits]; exact q4
  obtain ⟨vm₁, X₁, hstep₁⟩ := X.invokevirtual hexec hown hlink hnamed hmethM hstM hkP hkPi hy (a := b) (cell := cellB) hcell
    (fun z h => by rw [h] at hobj; cases hobj) hselP hmethM habM hkP hkPi (g := g) hg (argsL := argsL) (rest := rest) (hlen _ hsigM) hstack hdg
  rcases hK m meth c ⟨T.setVm vm₁, locs, cells, slots⟩ { g with stack := rest } (.invokevirtual index) mk (Value.ref b :: argsL).toArray X₁ hg hsize hdg hW (X₁.named hnamed) (hpre vm₁ X₁.warmed) with ⟨v, B, X', hpost, hsteps⟩ | ⟨q, B, X', hpost, hsteps⟩
  · exact Or.inl ⟨v, vm₁, B, X₁.warmed, X', hpost, fun target h => hstep₁ _ fun acts => by rw [doInvoke_state]; exact hsteps.trans h⟩
  · exact Or.inr ⟨q, vm₁, B, X₁.warmed, X', hpost, hstep₁ _ fun acts => by rw [doInvoke_state]; exact hsteps⟩
theorem vx_callS (X : Stand p l e R s m args below meth c T locs cells slots) (hexec : p.tables.exec = Jvm.exec) {own : String} {index : Nat} {y : MethodName} {bytes : ByteArray} {maxL : Nat} {ret : Option FieldType}
    (hown : s.vm.findClass own = some m.cls) (hlink : (Cond.methodLink own index y).before args s = true) (hstat : (Cond.static y).before args s = true) (hinit : (Cond.initialized y.cls).before args s = true)
    (hcode : (Cond.code y bytes maxL ret).before args s = true) (hy : y.cls ≠ "java/lang/invoke/MethodHandle" ∧ y.cls ≠ "java/lang/invoke/VarHandle")
    {W9 : Nat} {Pre : Pt → Array Value → Prop} {Post : Pt → Array Value → Option Value → Pt → Prop} {PostX : Pt → Array Value → Addr → Pt → Prop} (hK : vx_Back l R p e below s args y 3 W9 Pre Post PostX)
    {g : JFrame} (hg : g.method = m) (hsize : g.locals.size = c.maxLocals) {argsL rest : List Value} (hlen : ∀ sig, parseMethodDescriptor y.desc = some sig → argsL.length = sig.parameters.length)
    (hstack : g.stack = argsL.reverse ++ rest) (hW : 2 * g.monitorRoom + (rest.map fun v => v.category).sum ≤ W9) (hdg : decode c.code g.pc = .ok (.invokestatic index, 3))
    (hpre : ∀ vm₁, s.WarmedH vm₁ → Pre ⟨T.setVm vm₁, locs, cells, slots⟩ argsL.toArray) :
    (∃ (v : Option Value) (vm₁ : Vm) (B : Pt), s.WarmedH vm₁ ∧ Stand p l e R s m args below meth c B.U B.locs B.cells B.slots ∧ Post ⟨T.setVm vm₁, locs, cells, slots⟩ argsL.toArray v B ∧
      ∀ target, Steps p.tables e below (B.U.setTop { g with pc := g.pc + 3, stack := v.toList ++ rest }) target → Steps p.tables e below (T.setTop g) target) ∨
    (∃ (q : Addr) (vm₁ : Vm) (B : Pt), s.WarmedH vm₁ ∧ Stand p l e R s m args below meth c B.U B.locs B.cells B.slots ∧ PostX ⟨T.setVm vm₁, locs, cells, slots⟩ argsL.toArray q B ∧
      Steps p.tables e below (T.setTop g) ((B.U.setTop { g with stack := rest }).pushFrame (.throwing q))) := by
  obtain ⟨mk, hnamed⟩ := Cond.code_named hcode
  obtain ⟨methM, cM, hmethM, -, -, -, -, -, -, hsigM⟩ := Cond.code_spec hnamed hcode
  have hstatic : methM.isStatic = true := Cond.static_spec hnamed hmethM hstat
  obtain ⟨kP, hkP, -⟩ := className_of_methodNamed hnamed
  have hinitP : kP.init = .initialized := Cond.initialized_spec (findClass_of_methodNamed hnamed) hkP hinit
  obtain ⟨vm₁, X₁, hstep₁⟩ := X.invokestatic hexec hown hlink hnamed hmethM hstatic hkP hinitP hy (g := g) hg (argsL := argsL) (rest := rest) (hlen _ hsigM) hstack hdg
  rcases hK m meth c ⟨T.setVm vm₁, locs, cells, slots⟩ { g with stack := rest } (.invokestatic index) mk argsL.toArray X₁ hg hsize hdg hW (X₁.named hnamed) (hpre vm₁ X₁.warmed) with ⟨v, B, X', hpost, hsteps⟩ | ⟨q, B, X', hpost, hsteps⟩
  · exact Or.inl ⟨v, vm₁, B, X₁.warmed, X', hpost, fun target h => hstep₁ _ fun acts => by rw [doInvoke_state]; exact hsteps.trans h⟩
  · exact Or.inr ⟨q, vm₁, B, X₁.warmed, X', hpost, hstep₁ _ fun acts => by rw [doInvoke_state]; exact hsteps⟩
end Calls
theorem vx_cls {s : State} {T : State} {vm₁ : Vm} {E : String} {k : ClassId} (hW : s.WarmedH vm₁) (h : (T.setVm vm₁).vm.findClass E = some k) : s.vm.findClass E = some k := by
  have h1 : vm₁.findClass E = some k := h
  rw [hW.alike.findClass] at h1
  exact h1
/-- the method's frame g, with q thrown over it -/
def vx_W (p : Program) (l : Launch) (e : Env) (R : Room) (s : State) (m : MethodId) (args : Array Value) (below : List Frame) (meth : Method) (c : Code) (H : Heap) (locs : List Loc) (cells slots : Nat) (Q : State → Prop) (g : JFrame) (q : Addr) : Prop :=
  ∀ T : State, T.heap = H → Stand p l e R s m args below meth c T locs cells slots → ∃ t, Steps p.tables e below ((T.setTop g).pushFrame (.throwing q)) t ∧ Q t
def vx_Run (p : Program) (l : Launch) (e : Env) (R : Room) (s : State) (m : MethodId) (args : Array Value) (below : List Frame) (meth : Method) (c : Code) (H : Heap) (locs : List Loc) (cells slots mc ms : Nat) (g : JFrame) (rest : List Value) (Qa : State → Outcome → State → Prop) (XC : String → State → State → Prop) (free : Addr → Prop) : Prop :=
  ∀ T : State, T.heap = H → Stand p l e R s m args below meth c T locs cells slots →
    (∃ (v : Option Value) (st₀ t T' : State) (L : List Loc), st₀.heap = H ∧ Stand p l e R s m args below meth c T' (locs ++ L) (cells + mc) (slots + ms) ∧ (∀ q ∈ L, free q.base) ∧ T'.heap = t.heap ∧ T'.vm = t.vm ∧ Qa st₀ (.returned v) t ∧
      Goes p e below T g T' { g with pc := g.pc + 3, stack := v.toList ++ rest }) ∨
    (∃ (q : Addr) (st₀ t T' : State) (L : List Loc) (E : String) (ce : Cell), st₀.heap = H ∧ Stand p l e R s m args below meth c T' (locs ++ L) (cells + mc) (slots + ms) ∧ (∀ z ∈ L, free z.base) ∧ T'.heap = t.heap ∧ T'.vm = t.vm ∧ XC E st₀ t ∧ t.heap[q]? = some ce ∧ ce.vm = .none ∧ s.vm.findClass E = some ce.cls ∧
      Steps p.tables e below (T.setTop g) ((T'.setTop { g with stack := rest }).pushFrame (.throwing q)))
def vx_X {S : Type} (px : S → Prop) (B : String → S → State → Prop) (A : Nat → Prop) : String → State → State → Prop := fun E st t => ∃ u : S, px u ∧ B E u t ∧ va_F A st t
section Runs
variable {p : Program} {l : Launch} {e : Env} {R : Room} {s : State} {m : MethodId} {args : Array Value} {below : List Frame} {meth : Method} {c : Code} {H : Heap} {locs : List Loc} {cells slots : Nat}
variable {y : MethodName} {bytes cc : ByteArray} {maxL nL mc ms n index : Nat} {ret : Option FieldType} {ws : List Cond} {rm : Room} {Pc : Array Value → State → Prop} {Qc : Array Value → State → Outcome → State → Prop} {XC : String → State → State → Prop} {free : Addr → Prop} {Ts : List Cond} {own C : String} {b : Addr} {As rest : List Value} {g : JFrame}
theorem vx_callBack (cb : CallB R s args own index y bytes maxL ret ws rm mc ms n) (hM : vx_Met l y ws rm Pc Qc XC mc ms free) (hbl : FrameBlind Pc) : vx_Back l R p e below s args y 3 8 (PreOf R mc ms Pc) (PostOf Qc mc ms free) (vx_Post XC mc ms free) := by
  obtain ⟨hrc, hrs, hfr, hlo, hws, hcw, -, hini, -⟩ := cb
  exact vx_back (bytes := bytes) (maxL := maxL) (ret := ret) hM hbl hrc hrs hfr hlo hws hcw (fun a' U hW => word_at hW (Or.inl (by first | rfl | simp [Cond.onTables, Cond.keeps, Cond.steady])) hini)
theorem vx_runV (S : CallFix p m c cc nL s args Ts own) (hM : vx_Met l y ws rm Pc Qc XC mc ms free) (cw : CallW R s args own C index y bytes maxL ret ws rm mc ms n) (hp : PreV s H C b Pc As)
    (hg : g.method = m) (hn : As.length = n) (hsize : g.locals.size = nL) (hstack : g.stack = As.reverse ++ .ref b :: rest) (hW : 2 * g.monitorRoom + (rest.map fun v => v.category).sum ≤ 8) (hdg : decode cc g.pc = .ok (.invokevirtual index, 3)) (hf : cells + mc ≤ R.cells ∧ slots + ms ≤ R.slots) :
    vx_Run p l e R s m args below meth c H locs cells slots mc ms g rest (Qc (Value.ref b :: As).toArray) XC free := by
  have hK : vx_Back l R p e below s args y 3 8 (PreOf R mc ms Pc) (PostOf Qc mc ms free) (vx_Post XC mc ms free) := vx_callBack cw.1 hM hp.1
  obtain ⟨⟨-, -, -, -, -, -, hcode, -, hy, hlen, hl⟩, hin, hse⟩ := cw
  obtain ⟨hx, hb, hml, ho, -⟩ := S
  obtain ⟨-, ⟨cellB, hcB, hoB, hclB⟩, hPc⟩ := hp
  intro T hT X
  rcases vx_callV X hx (C := C) (bytes := bytes) (maxL := maxL) (ret := ret) ho hl hin hse hcode hy hK (by rw [hT]; exact hcB) hoB hclB hg (hsize.trans hml.symm) (argsL := As) (rest := rest) (fun sig h => hn.trans (hlen sig h)) hstack hW (by rw [hb]; exact hdg)
    (fun vm₁ hW₁ => ⟨hf.1, hf.2, hPc (T.setVm vm₁) hT hW₁⟩) with ⟨v, vm₁, ⟨U', l2, c2, s2⟩, hW₁, X', ⟨g', mk, t, L, e1, e2, hq, h1, hL, h2, h3⟩, st⟩ | ⟨q, vm₁, ⟨U', l2, c2, s2⟩, hW₁, X', ⟨g', mk, t, L, E, ce, e1, e2, hq, hce, hcv, hcl, h1, hL, h2, h3⟩, st⟩
  · dsimp only [Pt.U, Pt.locs, Pt.cells, Pt.slots] at X' e1 e2 h1 h2 h3 st
    subst h1; subst h2; subst h3
    exact Or.inl ⟨v, (T.setVm vm₁).calling g' mk (Value.ref b :: As).toArray, t, U', L, hT, X', hL, e1, e2, hq, st⟩
  · dsimp only [Pt.U, Pt.locs, Pt.cells, Pt.slots] at X' e1 e2 h1 h2 h3 st hcl
    subst h1; subst h2; subst h3
    exact Or.inr ⟨q, (T.setVm vm₁).calling g' mk (Value.ref b :: As).toArray, t, U', L, E, ce, hT, X', hL, e1, e2, hq, hce, hcv, vx_cls hW₁ hcl, st⟩
theorem vx_runS (S : CallFix p m c cc nL s args Ts own) (hM : vx_Met l y ws rm Pc Qc XC mc ms free) (cw : CallB R s args own index y bytes maxL ret ws rm mc ms n ∧ (Cond.static y).before args s = true) (hp : PreS s H Pc As)
    (hg : g.method = m) (hn : As.length = n) (hsize : g.locals.size = nL) (hstack : g.stack = As.reverse ++ rest) (hW : 2 * g.monitorRoom + (rest.map fun v => v.category).sum ≤ 8) (hdg : decode cc g.pc = .ok (.invokestatic index, 3)) (hf : cells + mc ≤ R.cells ∧ slots + ms ≤ R.slots) :
    vx_Run p l e R s m args below meth c H locs cells slots mc ms g rest (Qc As.toArray) XC free := by
  have hK : vx_Back l R p e below s args y 3 8 (PreOf R mc ms Pc) (PostOf Qc mc ms free) (vx_Post XC mc ms free) := vx_callBack cw.1 hM hp.1
  obtain ⟨⟨-, -, -, -, -, -, hcode, hini, hy, hlen, hl⟩, hstt⟩ := cw
  obtain ⟨hx, hb, hml, ho, -⟩ := S
  intro T hT X
  rcases vx_callS X hx (bytes := bytes) (maxL := maxL) (ret := ret) ho hl hstt hini hcode hy hK hg (hsize.trans hml.symm) (argsL := As) (rest := rest) (fun sig h => hn.trans (hlen sig h)) hstack hW (by rw [hb]; exact hdg)
    (fun vm₁ hW₁ => ⟨hf.1, hf.2, hp.2 (T.setVm vm₁) hT hW₁⟩) with ⟨v, vm₁, ⟨U', l2, c2, s2⟩, hW₁, X', ⟨g', mk, t, L, e1, e2, hq, h1, hL, h2, h3⟩, st⟩ | ⟨q, vm₁, ⟨U', l2, c2, s2⟩, hW₁, X', ⟨g', mk, t, L, E, ce, e1, e2, hq, hce, hcv, hcl, h1, hL, h2, h3⟩, st⟩
  · dsimp only [Pt.U, Pt.locs, Pt.cells, Pt.slots] at X' e1 e2 h1 h2 h3 st
    subst h1; subst h2; subst h3
    exact Or.inl ⟨v, (T.setVm vm₁).calling g' mk As.toArray, t, U', L, hT, X', hL, e1, e2, hq, st⟩
  · dsimp only [Pt.U, Pt.locs, Pt.cells, Pt.slots] at X' e1 e2 h1 h2 h3 st hcl
    subst h1; subst h2; subst h3
    exact Or.inr ⟨q, (T.setVm vm₁).calling g' mk As.toArray, t, U', L, E, ce, hT, X', hL, e1, e2, hq, hce, hcv, vx_cls hW₁ hcl, st⟩
end Runs
section Rows
variable {p : Program} {l : Launch} {e : Env} {R : Room} {s : State} {m : MethodId} {args : Array Value} {below : List Frame} {meth : Method} {c : Code} {H : Heap} {locs : List Loc} {cells slots : Nat} {Q : State → Prop}
variable {mc ms : Nat} {free : Addr → Prop} {A0 A1 : Nat → Prop} {H0 : Heap} {a : Array Value} {pc : Nat} {ls : Array Slot} {st0 rest : List Value}
theorem vx_keep {st₀ t T' : State} {L : List Loc} (h0 : st₀.heap = H) (e1 : T'.heap = t.heap) (hS : va_S A0 H0 H locs) (hA : ∀ q, q < H.size → A1 q → A0 q) (hf : ∀ q, free q → A0 q) (hL : ∀ q ∈ L, free q.base) (hF : va_F A1 st₀ t) :
    H.size ≤ T'.heap.size ∧ (∀ q : Nat, q < H.size → ¬ A1 q → T'.heap[q]? = H[q]?) ∧ va_S A0 H0 T'.heap (locs ++ L) := by
  obtain ⟨hz, hk⟩ := hF
  rw [h0] at hz hk
  exact ⟨by rw [e1]; exact hz, fun q h1 h2 => by rw [e1]; exact hk q h1 h2,
    ⟨Nat.le_trans hS.1 (by rw [e1]; exact hz), fun q h1 h2 => by rw [e1, hk q (Nat.lt_of_lt_of_le h1 hS.1) (fun z => h2 (hA q (Nat.lt_of_lt_of_le h1 hS.1) z))]; exact hS.2.1 q h1 h2, fun q hq => by
      rcases List.mem_append.mp hq with h | h
      · exact hS.2.2 q h
      · exact hf _ (hL q h)⟩⟩
theorem vx_calli {S SX : Type} {post : Int32 → S → Prop} {px : SX → Prop} {B : S → State → Prop} {BX : String → SX → State → Prop} {AX : Nat → Prop} (hr : vx_Run p l e R s m args below meth c H locs cells slots mc ms (F0 m pc ls st0) rest (va_Qi post B A1 a) (vx_X px BX AX) free) (hS : va_S A0 H0 H locs) (hA : ∀ q, q < H.size → A1 q → A0 q) (hf : ∀ q, free q → A0 q) (hAX : ∀ q, q < H.size → AX q → A0 q)
    (kx : ∀ (E : String) (ce : Cell) (q9 : Addr) (u : SX) (t : State) (H1 : Heap) (locs1 : List Loc), t.heap = H1 → s.vm.Alike t.vm → px u → BX E u t → H.size ≤ H1.size → (∀ q : Nat, q < H.size → ¬ AX q → H1[q]? = H[q]?) → va_S A0 H0 H1 locs1 → H1[q9]? = some ce → ce.vm = .none → s.vm.findClass E = some ce.cls → vx_W p l e R s m args below meth c H1 locs1 (cells + mc) (slots + ms) Q (F0 m pc ls rest) q9)
    (kk : ∀ (r : Int32) (u : S) (t : State) (H1 : Heap) (locs1 : List Loc), t.heap = H1 → s.vm.Alike t.vm → post r u → B u t → H.size ≤ H1.size → (∀ q : Nat, q < H.size → ¬ A1 q → H1[q]? = H[q]?) → va_S A0 H0 H1 locs1 → W p l e R s m args below meth c H1 locs1 (cells + mc) (slots + ms) Q (F0 m (pc + 3) ls (.int r :: rest))) : W p l e R s m args below meth c H locs cells slots Q (F0 m pc ls st0) := by
  intro T hT X
  rcases hr T hT X with ⟨v, st₀, t, T', L, h0, X', hL, e1, e2, ⟨⟨r, u, hv, hp, hb⟩, hF⟩, st⟩ | ⟨q, st₀, t, T', L, E, ce, h0, X', hL, e1, e2, ⟨u, hp, hb, hF⟩, hce, hcv, hcl, st⟩
  · cases hv
    obtain ⟨k1, k2, k3⟩ := vx_keep h0 e1 hS hA hf hL hF
    obtain ⟨t2, a1, b1⟩ := kk r u t T'.heap (locs ++ L) e1.symm (by rw [← e2]; exact X'.warmed.alike) hp hb k1 k2 k3 T' rfl X'
    exact ⟨t2, st t2 a1, b1⟩
  · obtain ⟨k1, k2, k3⟩ := vx_keep h0 e1 hS hAX hf hL hF
    obtain ⟨t2, a1, b1⟩ := kx E ce q u t T'.heap (locs ++ L) e1.symm (by rw [← e2]; exact X'.warmed.alike) hp hb k1 k2 k3 (by rw [e1]; exact hce) hcv hcl T' rfl X'
    exact ⟨t2, st.trans a1, b1⟩
theorem vx_calll {S SX : Type} {post : Int64 → S → Prop} {px : SX → Prop} {B : S → State → Prop} {BX : String → SX → State → Prop} {AX : Nat → Prop} (hr : vx_Run p l e R s m args below meth c H locs cells slots mc ms (F0 m pc ls st0) rest (va_Ql post B A1 a) (vx_X px BX AX) free) (hS : va_S A0 H0 H locs) (hA : ∀ q, q < H.size → A1 q → A0 q) (hf : ∀ q, free q → A0 q) (hAX : ∀ q, q < H.size → AX q → A0 q)
    (kx : ∀ (E : String) (ce : Cell) (q9 : Addr) (u : SX) (t : State) (H1 : Heap) (locs1 : List Loc), t.heap = H1 → s.vm.Alike t.vm → px u → BX E u t → H.size ≤ H1.size → (∀ q : Nat, q < H.size → ¬ AX q → H1[q]? = H[q]?) → va_S A0 H0 H1 locs1 → H1[q9]? = some ce → ce.vm = .none → s.vm.findClass E = some ce.cls → vx_W p l e R s m args below meth c H1 locs1 (cells + mc) (slots + ms) Q (F0 m pc ls rest) q9)
    (kk : ∀ (r : Int64) (u : S) (t : State) (H1 : Heap) (locs1 : List Loc), t.heap = H1 → s.vm.Alike t.vm → post r u → B u t → H.size ≤ H1.size → (∀ q : Nat, q < H.size → ¬ A1 q → H1[q]? = H[q]?) → va_S A0 H0 H1 locs1 → W p l e R s m args below meth c H1 locs1 (cells + mc) (slots + ms) Q (F0 m (pc + 3) ls (.long r :: rest))) : W p l e R s m args below meth c H locs cells slots Q (F0 m pc ls st0) := by
  intro T hT X
  rcases hr T hT X with ⟨v, st₀, t, T', L, h0, X', hL, e1, e2, ⟨⟨r, u, hv, hp, hb⟩, hF⟩, st⟩ | ⟨q, st₀, t, T', L, E, ce, h0, X', hL, e1, e2, ⟨u, hp, hb, hF⟩, hce, hcv, hcl, st⟩
  · cases hv
    obtain ⟨k1, k2, k3⟩ := vx_keep h0 e1 hS hA hf hL hF
    obtain ⟨t2, a1, b1⟩ := kk r u t T'.heap (locs ++ L) e1.symm (by rw [← e2]; exact X'.warmed.alike) hp hb k1 k2 k3 T' rfl X'
    exact ⟨t2, st t2 a1, b1⟩
  · obtain ⟨k1, k2, k3⟩ := vx_keep h0 e1 hS hAX hf hL hF
    obtain ⟨t2, a1, b1⟩ := kx E ce q u t T'.heap (locs ++ L) e1.symm (by rw [← e2]; exact X'.warmed.alike) hp hb k1 k2 k3 (by rw [e1]; exact hce) hcv hcl T' rfl X'
    exact ⟨t2, st.trans a1, b1⟩
theorem vx_callf {S SX : Type} {post : UInt32 → S → Prop} {px : SX → Prop} {B : S → State → Prop} {BX : String → SX → State → Prop} {AX : Nat → Prop} (hr : vx_Run p l e R s m args below meth c H locs cells slots mc ms (F0 m pc ls st0) rest (va_Qf post B A1 a) (vx_X px BX AX) free) (hS : va_S A0 H0 H locs) (hA : ∀ q, q < H.size → A1 q → A0 q) (hf : ∀ q, free q → A0 q) (hAX : ∀ q, q < H.size → AX q → A0 q)
    (kx : ∀ (E : String) (ce : Cell) (q9 : Addr) (u : SX) (t : State) (H1 : Heap) (locs1 : List Loc), t.heap = H1 → s.vm.Alike t.vm → px u → BX E u t → H.size ≤ H1.size → (∀ q : Nat, q < H.size → ¬ AX q → H1[q]? = H[q]?) → va_S A0 H0 H1 locs1 → H1[q9]? = some ce → ce.vm = .none → s.vm.findClass E = some ce.cls → vx_W p l e R s m args below meth c H1 locs1 (cells + mc) (slots + ms) Q (F0 m pc ls rest) q9)
    (kk : ∀ (r : UInt32) (u : S) (t : State) (H1 : Heap) (locs1 : List Loc), t.heap = H1 → s.vm.Alike t.vm → post r u → B u t → H.size ≤ H1.size → (∀ q : Nat, q < H.size → ¬ A1 q → H1[q]? = H[q]?) → va_S A0 H0 H1 locs1 → W p l e R s m args below meth c H1 locs1 (cells + mc) (slots + ms) Q (F0 m (pc + 3) ls (.float r :: rest))) : W p l e R s m args below meth c H locs cells slots Q (F0 m pc ls st0) := by
  intro T hT X
  rcases hr T hT X with ⟨v, st₀, t, T', L, h0, X', hL, e1, e2, ⟨⟨r, u, hv, hp, hb⟩, hF⟩, st⟩ | ⟨q, st₀, t, T', L, E, ce, h0, X', hL, e1, e2, ⟨u, hp, hb, hF⟩, hce, hcv, hcl, st⟩
  · cases hv
    obtain ⟨k1, k2, k3⟩ := vx_keep h0 e1 hS hA hf hL hF
    obtain ⟨t2, a1, b1⟩ := kk r u t T'.heap (locs ++ L) e1.symm (by rw [← e2]; exact X'.warmed.alike) hp hb k1 k2 k3 T' rfl X'
    exact ⟨t2, st t2 a1, b1⟩
  · obtain ⟨k1, k2, k3⟩ := vx_keep h0 e1 hS hAX hf hL hF
    obtain ⟨t2, a1, b1⟩ := kx E ce q u t T'.heap (locs ++ L) e1.symm (by rw [← e2]; exact X'.warmed.alike) hp hb k1 k2 k3 (by rw [e1]; exact hce) hcv hcl T' rfl X'
    exact ⟨t2, st.trans a1, b1⟩
theorem vx_calld {S SX : Type} {post : UInt64 → S → Prop} {px : SX → Prop} {B : S → State → Prop} {BX : String → SX → State → Prop} {AX : Nat → Prop} (hr : vx_Run p l e R s m args below meth c H locs cells slots mc ms (F0 m pc ls st0) rest (va_Qd post B A1 a) (vx_X px BX AX) free) (hS : va_S A0 H0 H locs) (hA : ∀ q, q < H.size → A1 q → A0 q) (hf : ∀ q, free q → A0 q) (hAX : ∀ q, q < H.size → AX q → A0 q)
    (kx : ∀ (E : String) (ce : Cell) (q9 : Addr) (u : SX) (t : State) (H1 : Heap) (locs1 : List Loc), t.heap = H1 → s.vm.Alike t.vm → px u → BX E u t → H.size ≤ H1.size → (∀ q : Nat, q < H.size → ¬ AX q → H1[q]? = H[q]?) → va_S A0 H0 H1 locs1 → H1[q9]? = some ce → ce.vm = .none → s.vm.findClass E = some ce.cls → vx_W p l e R s m args below meth c H1 locs1 (cells + mc) (slots + ms) Q (F0 m pc ls rest) q9)
    (kk : ∀ (r : UInt64) (u : S) (t : State) (H1 : Heap) (locs1 : List Loc), t.heap = H1 → s.vm.Alike t.vm → post r u → B u t → H.size ≤ H1.size → (∀ q : Nat, q < H.size → ¬ A1 q → H1[q]? = H[q]?) → va_S A0 H0 H1 locs1 → W p l e R s m args below meth c H1 locs1 (cells + mc) (slots + ms) Q (F0 m (pc + 3) ls (.double r :: rest))) : W p l e R s m args below meth c H locs cells slots Q (F0 m pc ls st0) := by
  intro T hT X
  rcases hr T hT X with ⟨v, st₀, t, T', L, h0, X', hL, e1, e2, ⟨⟨r, u, hv, hp, hb⟩, hF⟩, st⟩ | ⟨q, st₀, t, T', L, E, ce, h0, X', hL, e1, e2, ⟨u, hp, hb, hF⟩, hce, hcv, hcl, st⟩
  · cases hv
    obtain ⟨k1, k2, k3⟩ := vx_keep h0 e1 hS hA hf hL hF
    obtain ⟨t2, a1, b1⟩ := kk r u t T'.heap (locs ++ L) e1.symm (by rw [← e2]; exact X'.warmed.alike) hp hb k1 k2 k3 T' rfl X'
    exact ⟨t2, st t2 a1, b1⟩
  · obtain ⟨k1, k2, k3⟩ := vx_keep h0 e1 hS hAX hf hL hF
    obtain ⟨t2, a1, b1⟩ := kx E ce q u t T'.heap (locs ++ L) e1.symm (by rw [← e2]; exact X'.warmed.alike) hp hb k1 k2 k3 (by rw [e1]; exact hce) hcv hcl T' rfl X'
    exact ⟨t2, st.trans a1, b1⟩
theorem vx_callv {S SX : Type} {post : S → Prop} {px : SX → Prop} {B : S → State → Prop} {BX : String → SX → State → Prop} {AX : Nat → Prop} (hr : vx_Run p l e R s m args below meth c H locs cells slots mc ms (F0 m pc ls st0) rest (va_Qv post B A1 a) (vx_X px BX AX) free) (hS : va_S A0 H0 H locs) (hA : ∀ q, q < H.size → A1 q → A0 q) (hf : ∀ q, free q → A0 q) (hAX : ∀ q, q < H.size → AX q → A0 q)
    (kx : ∀ (E : String) (ce : Cell) (q9 : Addr) (u : SX) (t : State) (H1 : Heap) (locs1 : List Loc), t.heap = H1 → s.vm.Alike t.vm → px u → BX E u t → H.size ≤ H1.size → (∀ q : Nat, q < H.size → ¬ AX q → H1[q]? = H[q]?) → va_S A0 H0 H1 locs1 → H1[q9]? = some ce → ce.vm = .none → s.vm.findClass E = some ce.cls → vx_W p l e R s m args below meth c H1 locs1 (cells + mc) (slots + ms) Q (F0 m pc ls rest) q9)
    (kk : ∀ (u : S) (t : State) (H1 : Heap) (locs1 : List Loc), t.heap = H1 → s.vm.Alike t.vm → post u → B u t → H.size ≤ H1.size → (∀ q : Nat, q < H.size → ¬ A1 q → H1[q]? = H[q]?) → va_S A0 H0 H1 locs1 → W p l e R s m args below meth c H1 locs1 (cells + mc) (slots + ms) Q (F0 m (pc + 3) ls (rest))) : W p l e R s m args below meth c H locs cells slots Q (F0 m pc ls st0) := by
  intro T hT X
  rcases hr T hT X with ⟨v, st₀, t, T', L, h0, X', hL, e1, e2, ⟨⟨u, hv, hp, hb⟩, hF⟩, st⟩ | ⟨q, st₀, t, T', L, E, ce, h0, X', hL, e1, e2, ⟨u, hp, hb, hF⟩, hce, hcv, hcl, st⟩
  · cases hv
    obtain ⟨k1, k2, k3⟩ := vx_keep h0 e1 hS hA hf hL hF
    obtain ⟨t2, a1, b1⟩ := kk u t T'.heap (locs ++ L) e1.symm (by rw [← e2]; exact X'.warmed.alike) hp hb k1 k2 k3 T' rfl X'
    exact ⟨t2, st t2 a1, b1⟩
  · obtain ⟨k1, k2, k3⟩ := vx_keep h0 e1 hS hAX hf hL hF
    obtain ⟨t2, a1, b1⟩ := kx E ce q u t T'.heap (locs ++ L) e1.symm (by rw [← e2]; exact X'.warmed.alike) hp hb k1 k2 k3 (by rw [e1]; exact hce) hcv hcl T' rfl X'
    exact ⟨t2, st.trans a1, b1⟩
/-- caught by the row x of this method's table; the rows ahead don't take it -/
theorem vx_catch {own name : String} {E : String} {ce : Cell} {q : Addr} (hown : s.vm.findClass own = some m.cls) (pre : List ExceptionTableEntry) (x : ExceptionTableEntry) (suf : List ExceptionTableEntry) (hsplit : c.exceptionTable.toList = pre ++ x :: suf)
    (hpass : ∀ z ∈ pre, covers z pc = false ∨ (z.catchType ≠ 0 ∧ ∃ nm : String, (Cond.classLink own z.catchType nm).before args s = true ∧ va_Nc E nm s)) (hx : covers x pc = true) (h0 : x.catchType ≠ 0)
    (hlink : (Cond.classLink own x.catchType name).before args s = true) (hcast : (Cond.castable E name).before args s = true) (hcell : H[q]? = some ce) (hv : ce.vm = .none) (hcl : s.vm.findClass E = some ce.cls)
    (kk : W p l e R s m args below meth c H locs cells slots Q (F0 m x.handlerPc ls [.ref q])) : vx_W p l e R s m args below meth c H locs cells slots Q (F0 m pc ls rest) q := by
  intro T hT X
  have hpl : e.platform.magicAccessors = ({} : Platform).magicAccessors := by rw [X.admits.platform]
  obtain ⟨c3, c4, hc3, hc4, hasg⟩ := Cond.castable_spec hcast
  cases Option.some.inj (hc3.symm.trans hcl)
  obtain ⟨c5, hc5, hcl5⟩ := Cond.classLink_spec hown hlink e.platform hpl
  cases Option.some.inj (hc4.symm.trans hc5)
  obtain ⟨vm', X', st⟩ := X.thenCaughtThrough q (g := F0 m pc ls rest) rfl (Steps.refl _) (by rw [hT]; exact hcell) (by rw [hv]; rfl) (by obtain ⟨k9, h9, -⟩ := Vm.findClass_spec hcl; exact ⟨k9, h9⟩) pre x suf hsplit
    (fun z hz => by
      rcases hpass z hz with h | ⟨hz0, nm, hl1, hn1⟩
      · exact Or.inl h
      · obtain ⟨c6, hc6, hcl6⟩ := Cond.classLink_spec hown hl1 e.platform hpl
        obtain ⟨a8, b8, h1, h2, h3⟩ := hn1
        cases Option.some.inj (h1.symm.trans hcl)
        cases Option.some.inj (h2.symm.trans hc6)
        exact Or.inr ⟨hz0, _, hcl6, h3⟩) hx (Or.inr ⟨h0, c4, hcl5, hasg⟩)
  obtain ⟨t, a1, b1⟩ := kk (T.setVm vm') hT X'
  exact ⟨t, st.trans a1, b1⟩
end Rows
section Ends
variable {p : Program} {l : Launch} {e : Env} {R : Room} {s : State} {m : MethodId} {args : Array Value} {below : List Frame} {meth : Method} {c : Code} {H : Heap} {locs : List Loc} {cells slots : Nat} {Q : State → Prop}
variable {mc ms : Nat} {free : Addr → Prop} {A0 A1 : Nat → Prop} {H0 : Heap} {a : Array Value} {ls : Array Slot} {st0 rest : List Value}
variable {Qc : Array Value → State → Outcome → State → Prop} {XC : String → State → State → Prop}
/-- what a body that may throw owes at its end -/
def vx_MQ (below : List Frame) (Qc : Array Value → State → Outcome → State → Prop) (XC : String → State → State → Prop) (a : Array Value) (s : State) (mc ms : Nat) (free : Addr → Prop) : State → Prop := fun t =>
  ∃ o, t.status = .running ∧ Ended t below o ∧ vx_Q Qc XC mc ms free a s o t
theorem vx_ret {g : JFrame} {mc ms : Nat} (k : W p l e R s m args below meth c H locs cells slots (MQ below Qc args s mc ms free) g) : W p l e R s m args below meth c H locs cells slots (vx_MQ below Qc XC args s mc ms free) g := by
  intro T hT X
  obtain ⟨t, a1, o, b1, b2, b3, b4⟩ := k T hT X
  exact ⟨t, a1, o, b1, b2, Or.inl ⟨b3, b4⟩⟩
/-- not caught here: it goes on to the caller -/
theorem vx_widen {g : JFrame} {q : Addr} {k n : Nat} (h1 : cells ≤ k) (h2 : slots ≤ n) (kk : vx_W p l e R s m args below meth c H locs k n Q g q) : vx_W p l e R s m args below meth c H locs cells slots Q g q := fun T hT X => kk T hT (stand_widen X h1 h2)
theorem vx_out {pc : Nat} {E : String} {ce : Cell} {q : Addr} {mc ms : Nat} (hout : ∀ x ∈ c.exceptionTable.toList, covers x pc = false) (hlocks : meth.locks = false) (hcell : H[q]? = some ce) (hv : ce.vm = .none) (hcl : s.vm.findClass E = some ce.cls)
    (hx : ∀ t : State, t.heap = H → s.vm.Alike t.vm → XC E s t) (hf : ∀ z ∈ locs, free z.base) (hc : cells ≤ mc) (hs : slots ≤ ms) :
    vx_W p l e R s m args below meth c H locs cells slots (vx_MQ below Qc XC args s mc ms free) (F0 m pc ls rest) q := by
  intro T hT X
  obtain ⟨st1, hrun, hend, hW, hsm⟩ := X.leaveThrown q (g := F0 m pc ls rest) rfl rfl rfl hout hlocks
  have hcell9 : (T.setFrames (.throwing q :: below)).heap[q]? = some ce := by
    show T.heap[q]? = some ce
    rw [hT]; exact hcell
  exact ⟨_, st1, .threw q, hrun, hend, Or.inr ⟨q, rfl, E, ce, locs, hx _ hT hW.alike, hcell9, hv, hcl, hW, hsm.mono hc hs, hf⟩⟩
theorem vx_frame {U : State} {k n : Nat} (h : s.sameButNew ({ U with vm := s.vm } : State) locs k n) : s.heap.size ≤ U.heap.size ∧ ∀ q : Nat, q < s.heap.size → (∀ z ∈ locs, z.base ≠ q) → U.heap[q]? = s.heap[q]? := by
  obtain ⟨-, h2, -, -, -, h6⟩ := h
  refine ⟨h2, fun q hq hz => ?_⟩
  obtain ⟨c9, e1, e2, e3, e4⟩ := h6 q _ (Array.getElem?_eq_getElem hq)
  have hs : c9.slots = (s.heap[q]).slots := Array.ext_getElem? fun i => e4 i fun hm => hz _ hm rfl
  have h9 : c9 = s.heap[q] := by
    rw [hs] at e2
    exact e2
  have e5 : U.heap[q]? = some c9 := e1
  rw [e5, h9, Array.getElem?_eq_getElem hq]
/-- the words of a throw but the four that speak of the heap -/
def vx_no (w : Cond) : Bool := decide (w ≠ .isRef (.static Bundle.tN "UNASSIGNED_STACK" Bundle.steD)) && decide (w ≠ .isRef (.static Bundle.tN "SUPPRESSED_SENTINEL" Bundle.listD)) && decide (w ≠ .laysStatic Bundle.tN "UNASSIGNED_STACK" Bundle.steD) && decide (w ≠ .laysStatic Bundle.tN "SUPPRESSED_SENTINEL" Bundle.listD)
def vx_at0 (own : String) (ic : Nat) (X : String) (names : List String) : List Cond := (Bundle.ownAtoms0 own ic X names).filter vx_no
def vx_atS (own : String) (ic : Nat) (X : String) (names : List String) : List Cond := (Bundle.ownAtoms own ic X names).filter vx_no
/-- a word that the tables alone decide, or a good one -/
def vx_ot (w : Cond) : Bool := w.onTables || goodWord w
theorem vx_ot_at {args a' : Array Value} {s U : State} {w : Cond} (hW : s.WarmedH U.vm) (hvm : s.vm = U.vm) (hg : vx_ot w = true) (h : w.before args s = true) : w.before a' U = true := by
  simp only [vx_ot, Bool.or_eq_true] at hg
  rcases hg with hg | hg
  · exact va_tabs hg hvm h
  · exact word_at hW (good_of_word hg) h
/-- a list's words: the good ones out of the method's own list, the others by premises of their own -/
theorem vx_hat {args : Array Value} {s : State} {L B : List Cond} (h1 : ∀ w ∈ L.filter goodWord, w.before args s = true) (h2 : ∀ w ∈ L.filter (fun w => !goodWord w), w ∈ B) (h3 : ∀ w ∈ B, w.before args s = true) : ∀ w ∈ L, w.before args s = true := by
  intro w hw
  by_cases g : goodWord w = true
  · exact h1 w (List.mem_filter.mpr ⟨hw, g⟩)
  · refine h3 w (h2 w (List.mem_filter.mpr ⟨hw, ?_⟩))
    show (!goodWord w) = true
    cases hgw : goodWord w
    · rfl
    · exact absurd hgw g
theorem vx_c {args : Array Value} {s : State} {w : Cond} {B : List Cond} (h : w.before args s = true) (t : ∀ w ∈ B, w.before args s = true) : ∀ w' ∈ w :: B, w'.before args s = true := fun w' h' => (List.mem_cons.mp h').elim (fun e => by rw [e]; exact h) (t w')
theorem vx_n {args : Array Value} {s : State} : ∀ w ∈ ([] : List Cond), w.before args s = true := fun _ h => nomatch h
theorem vx_own {args : Array Value} {s : State} {L : List Cond} (h1 : ∀ w ∈ L.filter vx_no, w.before args s = true)
    (hU : (Cond.isRef (.static Bundle.tN "UNASSIGNED_STACK" Bundle.steD)).before args s = true) (hN : (Cond.isRef (.static Bundle.tN "SUPPRESSED_SENTINEL" Bundle.listD)).before args s = true)
    (lU : (Cond.laysStatic Bundle.tN "UNASSIGNED_STACK" Bundle.steD).before args s = true) (lN : (Cond.laysStatic Bundle.tN "SUPPRESSED_SENTINEL" Bundle.listD).before args s = true) : ∀ w ∈ L, w.before args s = true := by
  intro w hw
  by_cases e1 : w = .isRef (.static Bundle.tN "UNASSIGNED_STACK" Bundle.steD)
  · rw [e1]; exact hU
  · by_cases e2 : w = .isRef (.static Bundle.tN "SUPPRESSED_SENTINEL" Bundle.listD)
    · rw [e2]; exact hN
    · by_cases e3 : w = .laysStatic Bundle.tN "UNASSIGNED_STACK" Bundle.steD
      · rw [e3]; exact lU
      · by_cases e4 : w = .laysStatic Bundle.tN "SUPPRESSED_SENTINEL" Bundle.listD
        · rw [e4]; exact lN
        · exact h1 w (List.mem_filter.mpr ⟨hw, by unfold vx_no; rw [decide_eq_true e1, decide_eq_true e2, decide_eq_true e3, decide_eq_true e4]; rfl⟩)
/-- where a static field lies, its class's statics cell in H -/
def vx_L (C n d : String) (A : Nat → Prop) (U : State) (H : Heap) : Prop := ∃ (c : ClassId) (k : Class) (i : Nat) (f : Field) (a : Nat) (cell : Cell), U.vm.findClass C = some c ∧ U.fieldFound? C n d = some (c, k, i, f) ∧ f.isStatic = true ∧ k.statics = some a ∧ H[a]? = some cell ∧ cell.vm.isStatics = true ∧ cell.cls = c ∧ f.slot < cell.slots.size ∧ k.staticTypes[f.slot]? = some f.type ∧ ¬ A a
theorem vx_L.moved {C n d : String} {A : Nat → Prop} {u U : State} {H : Heap} (hvm : u.vm.Alike U.vm) (h : vx_L C n d A u H) : vx_L C n d A U H := by
  obtain ⟨c, k, i, f, a, cell, h1, h2, h3, h4, h5, h6, h7, h8, h9, h10⟩ := h
  obtain ⟨k', hi', he⟩ := State.fieldFound?_setVm hvm h2
  exact ⟨c, k', i, f, a, cell, by rw [hvm.findClass]; exact h1, hi', h3, by rw [he]; exact h4, h5, h6, h7, h8, by rw [he]; exact h9, h10⟩
theorem vx_L.kept {C n d : String} {A : Nat → Prop} {U : State} {H H1 : Heap} (h : vx_L C n d A U H) (hq : ∀ a : Nat, a < H.size → ¬ A a → H1[a]? = H[a]?) : vx_L C n d A U H1 := by
  obtain ⟨c, k, i, f, a, cell, h1, h2, h3, h4, h5, h6, h7, h8, h9, h10⟩ := h
  exact ⟨c, k, i, f, a, cell, h1, h2, h3, h4, by rw [hq a (Array.getElem?_eq_some_iff.mp h5).1 h10]; exact h5, h6, h7, h8, h9, h10⟩
theorem vx_L.narrow {C n d : String} {A B : Nat → Prop} {U : State} {H : Heap} (h : vx_L C n d A U H) (hAB : ∀ q, B q → A q) : vx_L C n d B U H := by
  obtain ⟨c, k, i, f, a, cell, h1, h2, h3, h4, h5, h6, h7, h8, h9, h10⟩ := h
  exact ⟨c, k, i, f, a, cell, h1, h2, h3, h4, h5, h6, h7, h8, h9, fun z => h10 (hAB _ z)⟩
theorem vx_L.word {C n d : String} {A : Nat → Prop} {s : State} {args : Array Value} (h : vx_L C n d A s s.heap) : (Cond.laysStatic C n d).before args s = true := by
  obtain ⟨c, k, i, f, a, cell, h1, h2, h3, h4, h5, h6, h7, h8, h9, -⟩ := h
  show (Cond.laysStatic C n d).holds args s none s [] = true
  exact Cond.laysStatic_of h1 h2 h3 h4 h5 h6 h7 h8 h9
/-- .. and what it holds: null or some reference -/
def vx_Zq (C n d : String) (A : Nat → Prop) (U : State) (H : Heap) : Prop := va_Zq C n d A U H ∧ vx_L C n d A U H
theorem vx_Zq.moved {C n d : String} {A : Nat → Prop} {u U : State} {H : Heap} (hvm : u.vm.Alike U.vm) (h : vx_Zq C n d A u H) : vx_Zq C n d A U H := ⟨va_Zq.moved hvm h.1, vx_L.moved hvm h.2⟩
theorem vx_Zq.kept {C n d : String} {A : Nat → Prop} {U : State} {H H1 : Heap} (h : vx_Zq C n d A U H) (hq : ∀ a : Nat, a < H.size → ¬ A a → H1[a]? = H[a]?) : vx_Zq C n d A U H1 := ⟨va_Zq.kept h.1 hq, vx_L.kept h.2 hq⟩
theorem vx_Zq.narrow {C n d : String} {A B : Nat → Prop} {U : State} {H : Heap} (h : vx_Zq C n d A U H) (hAB : ∀ q, B q → A q) : vx_Zq C n d B U H := ⟨va_Zq.narrow h.1 hAB, vx_L.narrow h.2 hAB⟩
theorem vx_Zqof {args : Array Value} {s : State} {C n d : String} {A : Nat → Prop} (hl : (Cond.laysStatic C n d).before args s = true) (hini : (Cond.initialized C).before args s = true) (h : (Cond.isRef (.static C n d)).before args s = true) (hA : ∀ a : Nat, a < s.heap.size → ¬ A a) : vx_Zq C n d A s s.heap := by
  refine ⟨va_Zqof hl hini h hA, ?_⟩
  obtain ⟨c, k, i, f, a, cell, h1, h2, h3, h4, h5, h6, h7, h8, h9⟩ := Cond.laysStatic_spec hl
  exact ⟨c, k, i, f, a, cell, h1, h2, h3, h4, h5, h6, h7, h8, h9, hA a (Array.getElem?_eq_some_iff.mp h5).1⟩
theorem vx_isRef {C n d : String} {v : Value} {A : Nat → Prop} {s : State} {args : Array Value} (h : va_Z C n d v A s s.heap) (hv : v.isRef = true) : (Cond.isRef (.static C n d)).before args s = true := by
  obtain ⟨cf, kf, fi, f, a, cell, h1, h2, h3, h4, h5, h6, h7, -⟩ := h
  have he : (Term.static C n d).eval args s none [] s = some v := by
    simp [Term.eval, State.fieldNamed?, h1, h2, h4, h5, h6, h7]
  simp only [Cond.before, Cond.holds, Cond.value, he]
  cases v <;> simp_all [Value.isRef]
theorem vx_isRefq {C n d : String} {A : Nat → Prop} {s : State} {args : Array Value} (h : va_Zq C n d A s s.heap) : (Cond.isRef (.static C n d)).before args s = true := by
  rcases h with h | ⟨t, h⟩
  · exact vx_isRef h rfl
  · exact vx_isRef h rfl
/-- the same frame, seen from here: as if the method were called anew in this heap -/
theorem vx_rebase {T : State} (X : Stand p l e R s m args below meth c T locs cells slots) {R' : Room} (hf : R'.frames ≤ R.frames) (hl : R'.locals ≤ R.locals) (hc : cells + R'.cells ≤ R.cells) (hs : slots + R'.slots ≤ R.slots) :
    Stand p l e R' ((T.setVm s.vm).setFrames (.invoking m args :: below)) m args below meth c T [] 0 0 := by
  have htop : (T.setVm s.vm).topJava?.isSome := X.here.top
  have hF : ((T.setVm s.vm).setFrames (.invoking m args :: below)).frames = .invoking m args :: below := State.frames_setFrames _ (State.cur_lt_of_top htop)
  obtain ⟨g₀, hg0⟩ := Option.isSome_iff_exists.mp htop
  obtain ⟨r, hr⟩ := State.topJava?_eq_some.mp hg0
  have hl9 : e.platform.stackLimits (T.setVm s.vm).me = e.platform.stackLimits s.me := X.limits
  have hb9 : (T.setVm s.vm).me.stackBytes = s.me.stackBytes := X.bytes
  refine ⟨X.admits, X.cas, X.clock, hF, ?_, X.hears, X.method, X.code, X.here, X.tail, X.warmed, ?_, ?_, ?_⟩
  · have h := X.room
    have hU : ((T.setVm s.vm).setFrames (.invoking m args :: below)).localsInUse = s.localsInUse := by
      rw [State.localsInUse_invoking hF (meth := meth) (c := c) X.method X.code, State.localsInUse_invoking X.frames X.method X.code]
    simp only [State.hasRoom, Bool.and_eq_true, decide_eq_true_eq] at h ⊢
    obtain ⟨⟨⟨⟨h1, h2, h3, h4, h5, h6⟩, h7⟩, h8⟩, h9⟩ := h
    rw [X.frames, List.length_cons] at h2 h3
    have q1 := X.heapSize
    have q2 := X.used
    simp only [hF, hU, List.length_cons, State.stackLimits_setFrames, State.stackBytes_setFrames, hl9, hb9]
    refine ⟨⟨⟨⟨by omega, by omega, by omega, by omega, by omega, h6⟩, ?_⟩, ?_⟩, X.book⟩
    · show T.heap.size + R'.cells ≤ e.platform.maxCells
      omega
    · show T.slotsUsed + R'.slots ≤ e.platform.maxSlots
      omega
  · rw [State.stackLimits_setFrames]; rfl
  · rw [State.stackBytes_setFrames]; rfl
  · refine ⟨?_, Nat.le_refl _, Nat.le_refl _, ?_, ?_, fun a c9 h9 => ⟨c9, h9, rfl, rfl, fun _ _ => rfl⟩⟩
    · obtain ⟨t, ht, -⟩ := State.frames_cons hr
      show T.setVm s.vm = { ((T.setVm s.vm).setFrames (.invoking m args :: below)).setFrames (T.setVm s.vm).frames with heap := T.heap, slotsUsed := T.slotsUsed }
      rw [State.setFrames_setFrames, State.setFrames_self ht]
      rfl
    · show T.slotsUsed = T.slotsUsed + ((T.heap.toList.drop T.heap.size).map (·.slots.size)).sum
      rw [List.drop_eq_nil_of_le (Nat.le_of_eq Array.length_toList)]
      rfl
    · show ((T.heap.toList.drop T.heap.size).map (·.slots.size)).sum ≤ 0
      rw [List.drop_eq_nil_of_le (Nat.le_of_eq Array.length_toList)]
      exact Nat.le_refl _
/-- 'throw new E()': new; dup; invokespecial; athrow -/
theorem vx_throw0 {cc : ByteArray} {pc : Nat} (hexec : p.tables.exec = Jvm.exec) (hb : c.code = cc) (hl : l.stackTraces = false) {own cls : String} {names : List String} {ik ic mc ms : Nat} {A : Nat → Prop}
    (hown : s.vm.findClass own = some m.cls) (hcls : Bundle.fit cls = true) (hnames : ∀ n ∈ names, Bundle.fit n = true)
    (hk : (Cond.classLink own ik cls).before args s = true) (hini : (Cond.initialized cls).before args s = true) (hat : ∀ w ∈ vx_at0 own ic cls names, w.before args s = true)
    (hgood : ∀ w ∈ Cond.classLink own ik cls :: Cond.initialized cls :: vx_at0 own ic cls names, vx_ot w = true)
    (hU : vx_Zq Bundle.tN "UNASSIGNED_STACK" Bundle.steD A s s.heap) (hN : vx_Zq Bundle.tN "SUPPRESSED_SENTINEL" Bundle.listD A s s.heap) (hS : va_S A s.heap H locs) (hsize : ls.size = c.maxLocals)
    (d0 : decode cc pc = .ok (.new ik, 3)) (d3 : decode cc (pc + 3) = .ok (.dup, 1)) (d4 : decode cc (pc + 4) = .ok (.invokespecial ic, 3)) (d7 : decode cc (pc + 7) = .ok (.athrow, 1))
    (hout : ∀ x ∈ c.exceptionTable.toList, covers x (pc + 7) = false)
    (hRframes : names.length + 3 < R.frames) (hRlocals : (rest.map fun v => v.category).sum + (13 * (names.length + 1) + 42) ≤ R.locals) (hRcells : cells + 1 ≤ R.cells) (hRslots : slots + 6 ≤ R.slots) (hlocks : meth.locks = false)
    (hx : ∀ t : State, s.vm.Alike t.vm → H.size ≤ t.heap.size → (∀ q : Nat, q < H.size → t.heap[q]? = H[q]?) → XC cls s t)
    (hf : ∀ z ∈ locs, free z.base) (hc : cells + 1 ≤ mc) (hs : slots + 6 ≤ ms) :
    W p l e R s m args below meth c H locs cells slots (vx_MQ below Qc XC args s mc ms free) (F0 m pc ls rest) := by
  intro T hT X
  have htr : e.platform.stackTraces = false := (show e.platform.stackTraces = l.stackTraces by rw [X.admits.platform]).trans hl
  have Y := vx_rebase X (R' := { frames := R.frames, locals := R.locals, cells := 1, slots := 6 }) (Nat.le_refl _) (Nat.le_refl _) hRcells hRslots
  obtain ⟨s', hA⟩ : ∃ z, z = (T.setVm s.vm).setFrames (.invoking m args :: below) := ⟨_, rfl⟩
  rw [← hA] at Y
  have hvm : s'.vm = s.vm := by rw [hA]; rfl
  have hhp : s'.heap = H := by rw [hA]; exact hT
  have hW0 : s.WarmedH s'.vm := by rw [hvm]; exact State.WarmedH.refl s
  have hat' : ∀ w ∈ vx_at0 own ic cls names, w.before args s' = true := fun w hw => vx_ot_at hW0 hvm.symm (hgood w (List.mem_cons_of_mem _ (List.mem_cons_of_mem _ hw))) (hat w hw)
  have hk' : (Cond.classLink own ik cls).before args s' = true := vx_ot_at hW0 hvm.symm (hgood _ List.mem_cons_self) hk
  have hini' : (Cond.initialized cls).before args s' = true := vx_ot_at hW0 hvm.symm (hgood _ (List.mem_cons_of_mem _ List.mem_cons_self)) hini
  have hU' : vx_Zq Bundle.tN "UNASSIGNED_STACK" Bundle.steD A s' s'.heap := by rw [hhp]; exact vx_Zq.moved hW0.alike (hU.kept hS.2.1)
  have hN' : vx_Zq Bundle.tN "SUPPRESSED_SENTINEL" Bundle.listD A s' s'.heap := by rw [hhp]; exact vx_Zq.moved hW0.alike (hN.kept hS.2.1)
  have h : ∀ w ∈ Bundle.ownAtoms0 own ic cls names, w.before args s' = true := vx_own hat' (vx_isRefq hU'.1) (vx_isRefq hN'.1) hU'.2.word hN'.2.word
  have hown' : s'.vm.findClass own = some m.cls := by rw [hvm]; exact hown
  have hins : (Cond.instantiable cls 6).before args s' = true := h _ (by simp [Bundle.ownAtoms0])
  obtain ⟨vm₁, cX, kX, hfX, hkX, -, -, X₁, st1⟩ := Y.newCold hexec (own := own) (C := cls) (index := ik) (n := 6) hown' hk' hins hini'
    (g := F0 m pc ls rest) rfl (by rw [hb]; exact d0) (Nat.le_refl _) (Nat.le_refl _)
  generalize hT1 : (T.setVm vm₁).pushCell { cls := cX, slots := kX.instanceTypes.map defaultValue, vm := .none } = T1 at X₁ st1
  have hcat : (Value.ref T.heap.size).category = 1 := rfl
  have hcellA : T1.heap[T.heap.size]? = some (freshCell cX kX) := by rw [← hT1]; exact State.heap_pushCell_size _ _
  have d3' : decode c.code (pc + 3) = .ok (.dup, 1) := by rw [hb]; exact d3
  obtain ⟨U, hsteps, hrun, hend, hW, hsame, ce, hce, hO⟩ := X₁.ctorThrow0 hexec htr (own := own) (cls := cls) (names := names) (ic := ic) hown' hcls hnames h (fun x hx => nomatch hx) hfX hkX hcellA (by rw [hhp, hT]; exact Nat.le_refl _)
    (g := { method := m, pc := pc + 4, locals := ls, stack := .ref T.heap.size :: .ref T.heap.size :: rest, locked := none }) rfl hsize rfl rfl (rest := rest) rfl
    (by rw [hb]; exact d4) (by rw [hb]; exact d7) hout hRframes (by simp only [List.map_cons, List.sum_cons, hcat]; omega) hlocks
  obtain ⟨f1, f2⟩ := vx_frame hsame
  rw [hhp] at f1 f2
  have hWs : s.WarmedH U.vm := State.WarmedH.trans hW0 hW
  have hcl : s.vm.findClass cls = some ce.cls := by
    have h9 := hO.cls
    rw [hvm] at h9
    exact h9
  have hall : s.sameButNew ({ U with vm := s.vm } : State) locs mc ms := by
    subst hA
    obtain ⟨e1, e2⟩ := hsame
    rw [State.setFrames_setFrames] at e1
    have h2 : (T.setVm s.vm).sameButNew ({ U with vm := s.vm } : State) [] (0 + 1) (0 + 6) := ⟨e1, e2⟩
    have h3 := X.same.trans h2
    rw [List.append_nil] at h3
    exact h3.mono hc hs
  refine ⟨U, ?_, .threw T.heap.size, hrun, hend, Or.inr ⟨T.heap.size, rfl, cls, ce, locs, hx U hWs.alike f1 (fun q hq => f2 q hq (fun z hz => nomatch hz)), hce, hO.vm, hcl, hWs, hall, hf⟩⟩
  refine st1 _ ?_
  show Steps p.tables e below (T1.setTop { method := m, pc := pc + 3, locals := ls, stack := .ref T.heap.size :: rest, locked := none }) _
  jvm_step X₁.here [X₁.here.top, hexec, d3', Value.category]
  exact hsteps
/-- 'throw new E("text")': new; dup; ldc; invokespecial; athrow -/
theorem vx_throwS {cc : ByteArray} {pc : Nat} (hexec : p.tables.exec = Jvm.exec) (hb : c.code = cc) (hl : l.stackTraces = false) {own cls text : String} {names : List String} {ik is ic mc ms sa : Nat} {A : Nat → Prop}
    (hown : s.vm.findClass own = some m.cls) (hcls : Bundle.fit cls = true) (hnames : ∀ n ∈ names, Bundle.fit n = true)
    (hk : (Cond.classLink own ik cls).before args s = true) (hini : (Cond.initialized cls).before args s = true) (hstr : vk_R own is text sa s) (hat : ∀ w ∈ vx_atS own ic cls names, w.before args s = true)
    (hgood : ∀ w ∈ Cond.classLink own ik cls :: Cond.initialized cls :: vx_atS own ic cls names, vx_ot w = true)
    (hU : vx_Zq Bundle.tN "UNASSIGNED_STACK" Bundle.steD A s s.heap) (hN : vx_Zq Bundle.tN "SUPPRESSED_SENTINEL" Bundle.listD A s s.heap) (hS : va_S A s.heap H locs) (hsize : ls.size = c.maxLocals)
    (d0 : decode cc pc = .ok (.new ik, 3)) (d3 : decode cc (pc + 3) = .ok (.dup, 1)) (d4 : decode cc (pc + 4) = .ok (.ldc is, 2)) (d6 : decode cc (pc + 6) = .ok (.invokespecial ic, 3)) (d9 : decode cc (pc + 9) = .ok (.athrow, 1))
    (hout : ∀ x ∈ c.exceptionTable.toList, covers x (pc + 9) = false)
    (hRframes : names.length + 3 < R.frames) (hRlocals : (rest.map fun v => v.category).sum + (13 * (names.length + 1) + 43) ≤ R.locals) (hRcells : cells + 1 ≤ R.cells) (hRslots : slots + 6 ≤ R.slots) (hlocks : meth.locks = false)
    (hx : ∀ t : State, s.vm.Alike t.vm → H.size ≤ t.heap.size → (∀ q : Nat, q < H.size → t.heap[q]? = H[q]?) → XC cls s t)
    (hf : ∀ z ∈ locs, free z.base) (hc : cells + 1 ≤ mc) (hs : slots + 6 ≤ ms) :
    W p l e R s m args below meth c H locs cells slots (vx_MQ below Qc XC args s mc ms free) (F0 m pc ls rest) := by
  intro T hT X
  have htr : e.platform.stackTraces = false := (show e.platform.stackTraces = l.stackTraces by rw [X.admits.platform]).trans hl
  have Y := vx_rebase X (R' := { frames := R.frames, locals := R.locals, cells := 1, slots := 6 }) (Nat.le_refl _) (Nat.le_refl _) hRcells hRslots
  obtain ⟨s', hA⟩ : ∃ z, z = (T.setVm s.vm).setFrames (.invoking m args :: below) := ⟨_, rfl⟩
  rw [← hA] at Y
  have hvm : s'.vm = s.vm := by rw [hA]; rfl
  have hhp : s'.heap = H := by rw [hA]; exact hT
  have hW0 : s.WarmedH s'.vm := by rw [hvm]; exact State.WarmedH.refl s
  have hat' : ∀ w ∈ vx_atS own ic cls names, w.before args s' = true := fun w hw => vx_ot_at hW0 hvm.symm (hgood w (List.mem_cons_of_mem _ (List.mem_cons_of_mem _ hw))) (hat w hw)
  have hk' : (Cond.classLink own ik cls).before args s' = true := vx_ot_at hW0 hvm.symm (hgood _ List.mem_cons_self) hk
  have hini' : (Cond.initialized cls).before args s' = true := vx_ot_at hW0 hvm.symm (hgood _ (List.mem_cons_of_mem _ List.mem_cons_self)) hini
  have hU' : vx_Zq Bundle.tN "UNASSIGNED_STACK" Bundle.steD A s' s'.heap := by rw [hhp]; exact vx_Zq.moved hW0.alike (hU.kept hS.2.1)
  have hN' : vx_Zq Bundle.tN "SUPPRESSED_SENTINEL" Bundle.listD A s' s'.heap := by rw [hhp]; exact vx_Zq.moved hW0.alike (hN.kept hS.2.1)
  have h : ∀ w ∈ Bundle.ownAtoms own ic cls names, w.before args s' = true := vx_own hat' (vx_isRefq hU'.1) (vx_isRefq hN'.1) hU'.2.word hN'.2.word
  have hown' : s'.vm.findClass own = some m.cls := by rw [hvm]; exact hown
  have hins : (Cond.instantiable cls 6).before args s' = true := h _ (by simp [Bundle.ownAtoms])
  obtain ⟨vm₁, cX, kX, hfX, hkX, -, -, X₁, st1⟩ := Y.newCold hexec (own := own) (C := cls) (index := ik) (n := 6) hown' hk' hins hini'
    (g := F0 m pc ls rest) rfl (by rw [hb]; exact d0) (Nat.le_refl _) (Nat.le_refl _)
  generalize hT1 : (T.setVm vm₁).pushCell { cls := cX, slots := kX.instanceTypes.map defaultValue, vm := .none } = T1 at X₁ st1
  have hcat : (Value.ref T.heap.size).category = 1 := rfl
  have hcellA : T1.heap[T.heap.size]? = some (freshCell cX kX) := by rw [← hT1]; exact State.heap_pushCell_size _ _
  have d3' : decode c.code (pc + 3) = .ok (.dup, 1) := by rw [hb]; exact d3
  have d4' : decode c.code (pc + 4) = .ok (.ldc is, 2) := by rw [hb]; exact d4
  have hstr' : vk_R own is text sa s' := vk_R.warm hW0 hstr
  obtain ⟨U, hsteps, hrun, hend, hW, hsame, ce, hce, hO⟩ := X₁.ctorThrowS hexec htr (own := own) (cls := cls) (names := names) (ic := ic) hown' hcls hnames h (fun x hx => nomatch hx) hfX hkX hcellA (by rw [hhp, hT]; exact Nat.le_refl _) (msg := .ref sa) rfl
    (g := { method := m, pc := pc + 6, locals := ls, stack := .ref sa :: .ref T.heap.size :: .ref T.heap.size :: rest, locked := none }) rfl hsize rfl rfl (rest := rest) rfl
    (by rw [hb]; exact d6) (by rw [hb]; exact d9) hout hRframes (by simp only [List.map_cons, List.sum_cons, hcat]; omega) hlocks
  obtain ⟨f1, f2⟩ := vx_frame hsame
  rw [hhp] at f1 f2
  have hWs : s.WarmedH U.vm := State.WarmedH.trans hW0 hW
  have hcl : s.vm.findClass cls = some ce.cls := by
    have h9 := hO.cls
    rw [hvm] at h9
    exact h9
  have hall : s.sameButNew ({ U with vm := s.vm } : State) locs mc ms := by
    subst hA
    obtain ⟨e1, e2⟩ := hsame
    rw [State.setFrames_setFrames] at e1
    have h2 : (T.setVm s.vm).sameButNew ({ U with vm := s.vm } : State) [] (0 + 1) (0 + 6) := ⟨e1, e2⟩
    have h3 := X.same.trans h2
    rw [List.append_nil] at h3
    exact h3.mono hc hs
  refine ⟨U, ?_, .threw T.heap.size, hrun, hend, Or.inr ⟨T.heap.size, rfl, cls, ce, locs, hx U hWs.alike f1 (fun q hq => f2 q hq (fun z hz => nomatch hz)), hce, hO.vm, hcl, hWs, hall, hf⟩⟩
  refine st1 _ ?_
  show Steps p.tables e below (T1.setTop { method := m, pc := pc + 3, locals := ls, stack := .ref T.heap.size :: rest, locked := none }) _
  jvm_step X₁.here [X₁.here.top, hexec, d3', Value.category]
  exact X₁.ldcString hexec (own := own) (text := text) (index := is) (a := sa) hown' hstr'.1 hstr'.2
    (g := { method := m, pc := pc + 4, locals := ls, stack := .ref T.heap.size :: .ref T.heap.size :: rest, locked := none }) rfl d4' _ hsteps
/-- 'throw new E("text")', the text by a wide index -/
theorem vx_throwSW {cc : ByteArray} {pc : Nat} (hexec : p.tables.exec = Jvm.exec) (hb : c.code = cc) (hl : l.stackTraces = false) {own cls text : String} {names : List String} {ik is ic mc ms sa : Nat} {A : Nat → Prop}
    (hown : s.vm.findClass own = some m.cls) (hcls : Bundle.fit cls = true) (hnames : ∀ n ∈ names, Bundle.fit n = true)
    (hk : (Cond.classLink own ik cls).before args s = true) (hini : (Cond.initialized cls).before args s = true) (hstr : vk_R own is text sa s) (hat : ∀ w ∈ vx_atS own ic cls names, w.before args s = true)
    (hgood : ∀ w ∈ Cond.classLink own ik cls :: Cond.initialized cls :: vx_atS own ic cls names, vx_ot w = true)
    (hU : vx_Zq Bundle.tN "UNASSIGNED_STACK" Bundle.steD A s s.heap) (hN : vx_Zq Bundle.tN "SUPPRESSED_SENTINEL" Bundle.listD A s s.heap) (hS : va_S A s.heap H locs) (hsize : ls.size = c.maxLocals)
    (d0 : decode cc pc = .ok (.new ik, 3)) (d3 : decode cc (pc + 3) = .ok (.dup, 1)) (d4 : decode cc (pc + 4) = .ok (.ldc_w is, 3)) (d7 : decode cc (pc + 7) = .ok (.invokespecial ic, 3)) (d10 : decode cc (pc + 10) = .ok (.athrow, 1))
    (hout : ∀ x ∈ c.exceptionTable.toList, covers x (pc + 10) = false)
    (hRframes : names.length + 3 < R.frames) (hRlocals : (rest.map fun v => v.category).sum + (13 * (names.length + 1) + 43) ≤ R.locals) (hRcells : cells + 1 ≤ R.cells) (hRslots : slots + 6 ≤ R.slots) (hlocks : meth.locks = false)
    (hx : ∀ t : State, s.vm.Alike t.vm → H.size ≤ t.heap.size → (∀ q : Nat, q < H.size → t.heap[q]? = H[q]?) → XC cls s t)
    (hf : ∀ z ∈ locs, free z.base) (hc : cells + 1 ≤ mc) (hs : slots + 6 ≤ ms) :
    W p l e R s m args below meth c H locs cells slots (vx_MQ below Qc XC args s mc ms free) (F0 m pc ls rest) := by
  intro T hT X
  have htr : e.platform.stackTraces = false := (show e.platform.stackTraces = l.stackTraces by rw [X.admits.platform]).trans hl
  have Y := vx_rebase X (R' := { frames := R.frames, locals := R.locals, cells := 1, slots := 6 }) (Nat.le_refl _) (Nat.le_refl _) hRcells hRslots
  obtain ⟨s', hA⟩ : ∃ z, z = (T.setVm s.vm).setFrames (.invoking m args :: below) := ⟨_, rfl⟩
  rw [← hA] at Y
  have hvm : s'.vm = s.vm := by rw [hA]; rfl
  have hhp : s'.heap = H := by rw [hA]; exact hT
  have hW0 : s.WarmedH s'.vm := by rw [hvm]; exact State.WarmedH.refl s
  have hat' : ∀ w ∈ vx_atS own ic cls names, w.before args s' = true := fun w hw => vx_ot_at hW0 hvm.symm (hgood w (List.mem_cons_of_mem _ (List.mem_cons_of_mem _ hw))) (hat w hw)
  have hk' : (Cond.classLink own ik cls).before args s' = true := vx_ot_at hW0 hvm.symm (hgood _ List.mem_cons_self) hk
  have hini' : (Cond.initialized cls).before args s' = true := vx_ot_at hW0 hvm.symm (hgood _ (List.mem_cons_of_mem _ List.mem_cons_self)) hini
  have hU' : vx_Zq Bundle.tN "UNASSIGNED_STACK" Bundle.steD A s' s'.heap := by rw [hhp]; exact vx_Zq.moved hW0.alike (hU.kept hS.2.1)
  have hN' : vx_Zq Bundle.tN "SUPPRESSED_SENTINEL" Bundle.listD A s' s'.heap := by rw [hhp]; exact vx_Zq.moved hW0.alike (hN.kept hS.2.1)
  have h : ∀ w ∈ Bundle.ownAtoms own ic cls names, w.before args s' = true := vx_own hat' (vx_isRefq hU'.1) (vx_isRefq hN'.1) hU'.2.word hN'.2.word
  have hown' : s'.vm.findClass own = some m.cls := by rw [hvm]; exact hown
  have hins : (Cond.instantiable cls 6).before args s' = true := h _ (by simp [Bundle.ownAtoms])
  obtain ⟨vm₁, cX, kX, hfX, hkX, -, -, X₁, st1⟩ := Y.newCold hexec (own := own) (C := cls) (index := ik) (n := 6) hown' hk' hins hini'
    (g := F0 m pc ls rest) rfl (by rw [hb]; exact d0) (Nat.le_refl _) (Nat.le_refl _)
  generalize hT1 : (T.setVm vm₁).pushCell { cls := cX, slots := kX.instanceTypes.map defaultValue, vm := .none } = T1 at X₁ st1
  have hcat : (Value.ref T.heap.size).category = 1 := rfl
  have hcellA : T1.heap[T.heap.size]? = some (freshCell cX kX) := by rw [← hT1]; exact State.heap_pushCell_size _ _
  have d3' : decode c.code (pc + 3) = .ok (.dup, 1) := by rw [hb]; exact d3
  have d4' : decode c.code (pc + 4) = .ok (.ldc_w is, 3) := by rw [hb]; exact d4
  have hstr' : vk_R own is text sa s' := vk_R.warm hW0 hstr
  obtain ⟨U, hsteps, hrun, hend, hW, hsame, ce, hce, hO⟩ := X₁.ctorThrowS hexec htr (own := own) (cls := cls) (names := names) (ic := ic) hown' hcls hnames h (fun x hx => nomatch hx) hfX hkX hcellA (by rw [hhp, hT]; exact Nat.le_refl _) (msg := .ref sa) rfl
    (g := { method := m, pc := pc + 7, locals := ls, stack := .ref sa :: .ref T.heap.size :: .ref T.heap.size :: rest, locked := none }) rfl hsize rfl rfl (rest := rest) rfl
    (by rw [hb]; exact d7) (by rw [hb]; exact d10) hout hRframes (by simp only [List.map_cons, List.sum_cons, hcat]; omega) hlocks
  obtain ⟨f1, f2⟩ := vx_frame hsame
  rw [hhp] at f1 f2
  have hWs : s.WarmedH U.vm := State.WarmedH.trans hW0 hW
  have hcl : s.vm.findClass cls = some ce.cls := by
    have h9 := hO.cls
    rw [hvm] at h9
    exact h9
  have hall : s.sameButNew ({ U with vm := s.vm } : State) locs mc ms := by
    subst hA
    obtain ⟨e1, e2⟩ := hsame
    rw [State.setFrames_setFrames] at e1
    have h2 : (T.setVm s.vm).sameButNew ({ U with vm := s.vm } : State) [] (0 + 1) (0 + 6) := ⟨e1, e2⟩
    have h3 := X.same.trans h2
    rw [List.append_nil] at h3
    exact h3.mono hc hs
  refine ⟨U, ?_, .threw T.heap.size, hrun, hend, Or.inr ⟨T.heap.size, rfl, cls, ce, locs, hx U hWs.alike f1 (fun q hq => f2 q hq (fun z hz => nomatch hz)), hce, hO.vm, hcl, hWs, hall, hf⟩⟩
  refine st1 _ ?_
  show Steps p.tables e below (T1.setTop { method := m, pc := pc + 3, locals := ls, stack := .ref T.heap.size :: rest, locked := none }) _
  jvm_step X₁.here [X₁.here.top, hexec, d3', Value.category]
  exact X₁.ldcStringW hexec (own := own) (text := text) (index := is) (a := sa) hown' hstr'.1 hstr'.2
    (g := { method := m, pc := pc + 4, locals := ls, stack := .ref T.heap.size :: .ref T.heap.size :: rest, locked := none }) rfl d4' _ hsteps
end Ends
section Bodies
variable {l : Launch}
theorem vx_ofW {y : MethodName} {ws ws' : List Cond} {rm : Room} {Pc : Array Value → State → Prop} {Qc : Array Value → State → Outcome → State → Prop} {XC : String → State → State → Prop} {mc ms : Nat} {free : Addr → Prop} {cc : ByteArray} {maxL : Nat} {ret : Option FieldType}
    (hy : plainName y.cls = true) (hw : ws = Cond.code y cc maxL ret :: ws')
    (body : ∀ p e s m args below meth c s₁, BodyLoose p l y (headSpec ws rm) cc maxL ret e s m args below meth c s₁ → c.maxLocals = maxL → (∀ x ∈ c.exceptionTable.toList, False) → Pc args s →
      W p l e (headSpec ws rm).room s m args below meth c s.heap [] 0 0 (vx_MQ below Qc XC args s mc ms free) (entryFrame m args maxL)) : vx_Met l y ws rm Pc Qc XC mc ms free := by
  refine MetFree.of_bodyS (code := cc) (maxLocals := maxL) (ret := ret) hy ?_ ?_
  · intro args s m h hn
    obtain ⟨meth, c, h1, h2, h3, h4, h5, h6, -, -⟩ := Cond.code_spec hn (atoms_spec (ws := ws) h _ (by rw [hw]; exact List.mem_cons_self))
    exact ⟨meth, c, h1, h2, h3, h4, h5, h6⟩
  · intro p e s m args below meth c s₁ B hml hP _
    have hh0 : s₁.heap = s.heap := by rw [B.state]; rfl
    have ht : ∀ x ∈ c.exceptionTable.toList, False := by
      obtain ⟨meth9, c9, h1, h2, -, -, -, -, h7, -⟩ := Cond.code_spec B.named (atoms_spec (ws := ws) B.pre _ (by rw [hw]; exact List.mem_cons_self))
      cases Option.some.inj (h1.symm.trans B.method)
      cases Option.some.inj (h2.symm.trans (Stand.of_body B).code)
      intro x hx
      rw [Array.isEmpty_iff.mp h7] at hx
      cases hx
    obtain ⟨t, a1, o, b1, b2, b3⟩ := body p e s m args below meth c s₁ B hml ht hP s₁ hh0 (Stand.of_body B)
    exact ⟨t, o, a1, b1, b2, b3⟩
/-- the table of a body with handlers -/
theorem vx_table {p : Program} {x y : MethodName} {S : Spec} {cc bytes : ByteArray} {maxL maxL' : Nat} {ret ret' : Option FieldType} {e : Env} {s s₁ : State} {m : MethodId} {args : Array Value} {below : List Frame} {meth : Method} {c : Code} {hh : List (Nat × Nat × Nat × Nat)}
    (B : BodyLoose p l y S cc maxL ret e s m args below meth c s₁) (h : (Cond.codeWith y bytes maxL' ret' hh).before args s = true) : c.exceptionTable.toList = tableOf hh := by
  obtain ⟨m9, meth9, c9, hn9, h1, h2, -, -, h6, -⟩ := Cond.codeWith_spec h
  cases Option.some.inj (hn9.symm.trans B.named)
  cases Option.some.inj (h1.symm.trans B.method)
  cases Option.some.inj (h2.symm.trans (Stand.of_body B).code)
  rw [← h6, table_eq]
end Bodies
end VXA
/-! ===== END ===== -/
/-! ===== BEGIN a static call of a method with an exception table ===== -/
section VXS
variable {p : Program} {l : Launch} {e : Env} {R : Room} {s : State} {m : MethodId} {args : Array Value} {below : List Frame} {meth : Method} {c : Code} {T : State} {H : Heap} {locs : List Loc} {cells slots : Nat}
abbrev vx_CSW (R : Room) (s : State) (args : Array Value) (own : String) (index : Nat) (y : MethodName) (bytes : ByteArray) (maxL : Nat) (ret : Option FieldType) (hh : List (Nat × Nat × Nat × Nat)) (ws : List Cond) (rm : Room) (mc ms n : Nat) : Prop :=
  (rm.cells = mc ∧ rm.slots = ms ∧ rm.frames + 1 ≤ R.frames ∧ 8 + (maxL + 11) + rm.locals ≤ R.locals ∧ (∀ w ∈ ws, ∀ (a' : Array Value) (U : State), s.WarmedH U.vm → w.before a' U = true) ∧ Cond.codeWith y bytes maxL ret hh ∈ ws) ∧
  (Cond.codeWith y bytes maxL ret hh).before args s = true ∧ (Cond.initialized y.cls).before args s = true ∧ (y.cls ≠ "java/lang/invoke/MethodHandle" ∧ y.cls ≠ "java/lang/invoke/VarHandle") ∧
  (∀ sig, parseMethodDescriptor y.desc = some sig → n = sig.parameters.length) ∧ (Cond.methodLink own index y).before args s = true ∧ (Cond.static y).before args s = true
theorem vx_cwSW {own : String} {index maxL mc ms : Nat} {y : MethodName} {bytes : ByteArray} {ret : Option FieldType} {hh : List (Nat × Nat × Nat × Nat)} {Ts ws ws' : List Cond} {rm : Room} (n : Nat) (ht : ∀ w ∈ Ts, w.before args s = true) (hT : GoodIn Ts (va_wsS own index y ws)) (hw : ws = Cond.codeWith y bytes maxL ret hh :: ws') (hrc : rm.cells = mc) (hrs : rm.slots = ms)
    (hd : y.cls ≠ "java/lang/invoke/MethodHandle" ∧ y.cls ≠ "java/lang/invoke/VarHandle" ∧ (parseMethodDescriptor y.desc).map (fun d => d.parameters.length) = some n) (hR : rm.frames + 1 ≤ R.frames ∧ 8 + (maxL + 11) + rm.locals ≤ R.locals) :
    vx_CSW R s args own index y bytes maxL ret hh ws rm mc ms n := by
  have ok : ∀ w ∈ va_wsS own index y ws, w.before args s = true := fun w h => ht w (hT w h).1
  have hG : GoodIn Ts ws := fun w h => hT w (by unfold va_wsS; exact List.mem_append_right _ h)
  have hc : Cond.codeWith y bytes maxL ret hh ∈ ws := by rw [hw]; exact List.mem_cons_self
  refine ⟨⟨hrc, hrs, hR.1, hR.2, pay_in ht hG, hc⟩, ht _ (hG _ hc).1, ok _ (by simp [va_wsS]), ⟨hd.1, hd.2.1⟩, fun sig h => ?_, ok _ (by simp [va_wsS]), ok _ (by simp [va_wsS])⟩
  have h2 := hd.2.2
  rw [h] at h2
  exact (Option.some.inj h2).symm
theorem vx_callSW (X : Stand p l e R s m args below meth c T locs cells slots) (hexec : p.tables.exec = Jvm.exec) {own : String} {index : Nat} {y : MethodName} {bytes : ByteArray} {maxL : Nat} {ret : Option FieldType} {hh : List (Nat × Nat × Nat × Nat)}
    (hown : s.vm.findClass own = some m.cls) (hlink : (Cond.methodLink own index y).before args s = true) (hstat : (Cond.static y).before args s = true) (hinit : (Cond.initialized y.cls).before args s = true)
    (hcode : (Cond.codeWith y bytes maxL ret hh).before args s = true) (hy : y.cls ≠ "java/lang/invoke/MethodHandle" ∧ y.cls ≠ "java/lang/invoke/VarHandle")
    {W9 : Nat} {Pre : Pt → Array Value → Prop} {Post : Pt → Array Value → Option Value → Pt → Prop} (hK : Back l R p e below s args y 3 W9 Pre Post)
    {g : JFrame} (hg : g.method = m) (hsize : g.locals.size = c.maxLocals) {argsL rest : List Value} (hlen : ∀ sig, parseMethodDescriptor y.desc = some sig → argsL.length = sig.parameters.length)
    (hstack : g.stack = argsL.reverse ++ rest) (hW : 2 * g.monitorRoom + (rest.map fun v => v.category).sum ≤ W9) (hdg : decode c.code g.pc = .ok (.invokestatic index, 3))
    (hpre : ∀ vm₁, s.WarmedH vm₁ → Pre ⟨T.setVm vm₁, locs, cells, slots⟩ argsL.toArray) :
    ∃ (v : Option Value) (vm₁ : Vm) (B : Pt), s.WarmedH vm₁ ∧ Stand p l e R s m args below meth c B.U B.locs B.cells B.slots ∧ Post ⟨T.setVm vm₁, locs, cells, slots⟩ argsL.toArray v B ∧
      ∀ target, Steps p.tables e below (B.U.setTop { g with pc := g.pc + 3, stack := v.toList ++ rest }) target → Steps p.tables e below (T.setTop g) target := by
  obtain ⟨mk, methM, cM, hnamed, hmethM, -, -, -, -, -, -, hsigM⟩ := Cond.codeWith_spec hcode
  have hstatic : methM.isStatic = true := Cond.static_spec hnamed hmethM hstat
  obtain ⟨kP, hkP, -⟩ := className_of_methodNamed hnamed
  have hinitP : kP.init = .initialized := Cond.initialized_spec (findClass_of_methodNamed hnamed) hkP hinit
  obtain ⟨vm₁, X₁, hstep₁⟩ := X.invokestatic hexec hown hlink hnamed hmethM hstatic hkP hinitP hy (g := g) hg (argsL := argsL) (rest := rest) (hlen _ hsigM) hstack hdg
  obtain ⟨v, B, X', hpost, hsteps⟩ := hK m meth c ⟨T.setVm vm₁, locs, cells, slots⟩ { g with stack := rest } (.invokestatic index) mk argsL.toArray X₁ hg hsize hdg hW (X₁.named hnamed) (hpre vm₁ X₁.warmed)
  exact ⟨v, vm₁, B, X₁.warmed, X', hpost, fun target h => hstep₁ _ fun acts => by rw [doInvoke_state]; exact hsteps.trans h⟩
theorem vx_runSW {y : MethodName} {bytes cc : ByteArray} {maxL nL mc ms n index : Nat} {ret : Option FieldType} {hh : List (Nat × Nat × Nat × Nat)} {ws : List Cond} {rm : Room} {Pc : Array Value → State → Prop} {Qc : Array Value → State → Outcome → State → Prop} {free : Addr → Prop} {Ts : List Cond} {own : String} {As rest : List Value} {g : JFrame}
    (S : CallFix p m c cc nL s args Ts own) (hM : Met l y ws rm Pc Qc mc ms free) (cw : vx_CSW R s args own index y bytes maxL ret hh ws rm mc ms n) (hp : PreS s H Pc As)
    (hg : g.method = m) (hn : As.length = n) (hsize : g.locals.size = nL) (hstack : g.stack = As.reverse ++ rest) (hW : 2 * g.monitorRoom + (rest.map fun v => v.category).sum ≤ 8) (hdg : decode cc g.pc = .ok (.invokestatic index, 3)) (hf : cells + mc ≤ R.cells ∧ slots + ms ≤ R.slots) :
    va_Run p l e R s m args below meth c H locs cells slots mc ms g rest (Qc As.toArray) (free) := by
  obtain ⟨⟨hrc, hrs, hfr, hlo, hws, hcw⟩, hcode, hini, hy, hlen, hl, hstt⟩ := cw
  have hK : Back l R p e below s args y 3 8 (PreOf R mc ms Pc) (PostOf Qc mc ms free) := va_backW (hh := hh) (bytes := bytes) (maxL := maxL) (ret := ret) hM hp.1 hrc hrs hfr hlo hws hcw (fun a' U hW => word_at hW (Or.inl (by first | rfl | simp [Cond.onTables, Cond.keeps, Cond.steady])) hini)
  obtain ⟨hx, hb, hml, ho, -⟩ := S
  intro T hT X
  obtain ⟨v, vm₁, ⟨U', l2, c2, s2⟩, hW₁, X', ⟨g', mk, t, L, e1, e2, hq, h1, hL, h2, h3⟩, st⟩ := vx_callSW X hx (hh := hh) (bytes := bytes) (maxL := maxL) (ret := ret) ho hl hstt hini hcode hy hK hg (hsize.trans hml.symm) (argsL := As) (rest := rest) (fun sig h => hn.trans (hlen sig h)) hstack hW (by rw [hb]; exact hdg)
    (fun vm₁ hW₁ => ⟨hf.1, hf.2, hp.2 (T.setVm vm₁) hT hW₁⟩)
  dsimp only [Pt.U, Pt.locs, Pt.cells, Pt.slots] at X' e1 e2 h1 h2 h3 st
  subst h1; subst h2; subst h3
  exact ⟨v, (T.setVm vm₁).calling g' mk As.toArray, t, U', L, hT, X', hL, e1, e2, hq, st⟩
/-- not caught here, past rows that name other classes: it goes on to the caller -/
theorem vx_outP {p : Program} {l : Launch} {e : Env} {R : Room} {s : State} {m : MethodId} {args : Array Value} {below : List Frame} {meth : Method} {c : Code} {H : Heap} {locs : List Loc} {cells slots : Nat} {free : Addr → Prop} {ls : Array Slot} {rest : List Value} {Qc : Array Value → State → Outcome → State → Prop} {XC : String → State → State → Prop}
    {pc : Nat} {own E : String} {ce : Cell} {q : Addr} {mc ms : Nat} (hown : s.vm.findClass own = some m.cls) (hlocks : meth.locks = false)
    (hpass : ∀ z ∈ c.exceptionTable.toList, covers z pc = false ∨ (z.catchType ≠ 0 ∧ ∃ nm : String, (Cond.classLink own z.catchType nm).before args s = true ∧ va_Nc E nm s)) (hcell : H[q]? = some ce) (hv : ce.vm = .none) (hcl : s.vm.findClass E = some ce.cls)
    (hx : ∀ t : State, t.heap = H → s.vm.Alike t.vm → XC E s t) (hf : ∀ z ∈ locs, free z.base) (hc : cells ≤ mc) (hs : slots ≤ ms) :
    vx_W p l e R s m args below meth c H locs cells slots (vx_MQ below Qc XC args s mc ms free) (F0 m pc ls rest) q := by
  intro T hT X
  have hpl : e.platform.magicAccessors = ({} : Platform).magicAccessors := by rw [X.admits.platform]
  obtain ⟨vm', hW', X', st⟩ := X.outThrough hlocks q (g := F0 m pc ls rest) rfl rfl rfl (cell := ce) (by rw [hT]; exact hcell) (by rw [hv]; rfl)
    (by obtain ⟨k9, h9, -⟩ := Vm.findClass_spec hcl; exact ⟨k9, h9⟩) (fun z hz => by
      rcases hpass z hz with h | ⟨hz0, nm, hl1, hn1⟩
      · exact Or.inl h
      · obtain ⟨c6, hc6, hcl6⟩ := Cond.classLink_spec hown hl1 e.platform hpl
        obtain ⟨a8, b8, h1, h2, h3⟩ := hn1
        cases Option.some.inj (h1.symm.trans hcl)
        cases Option.some.inj (h2.symm.trans hc6)
        exact Or.inr ⟨hz0, _, hcl6, h3⟩)
  obtain ⟨g₀, hfr⟩ := X'.frames_eq
  have hcell9 : ((T.setVm vm').setFrames (.throwing q :: below)).heap[q]? = some ce := by
    show T.heap[q]? = some ce
    rw [hT]; exact hcell
  have hend : Ended ((T.setVm vm').setFrames (.throwing q :: below)) below (.threw q) := State.frames_setFrames _ (State.cur_lt_of_frames hfr)
  refine ⟨(T.setVm vm').setFrames (.throwing q :: below), ?_, .threw q, X'.here.running, hend, Or.inr ⟨q, rfl, E, ce, locs, hx _ hT (X'.ends _).1.alike, hcell9, hv, hcl, (X'.ends _).1, (X'.ends _).2.mono hc hs, hf⟩⟩
  rw [X.pushThrowing_eq]
  exact st
/-- a thing of a world lies in the heap -/
theorem vx_lt {D : va_G} {cl : List vw_C} {ws : va_W} {H1 : Heap} (h : va_P D cl ws H1) {k : Nat} {q : Nat × va_E} (hk : ws[k]? = some q) : q.1 < H1.size := (h k q hk).lt
end VXS
/-! ===== END ===== -/
/-! ===== BEGIN methods with a table of their own: called by a name, returning or throwing ===== -/
section VXH
/-! vx_backW, vx_callVX, vx_callSX, vx_callVW, vx_runVW, vx_runVX, vx_runSX, vx_ofWH follow the same proofs as their sisters above (Free/Laws.lean, Shelf42/LK1.lean); vx_outP calls Shelf42/NT130.lean (outThrough). -/
section
variable {l : Launch} {R : Room} {p : Program} {e : Env} {below : List Frame} {s : State} {sargs : Array Value} {y : MethodName} {len W9 : Nat}
theorem vx_backW {ws : List Cond} {rm : Room} {Pc : Array Value → State → Prop} {Qc : Array Value → State → Outcome → State → Prop} {XC : String → State → State → Prop} {mc ms : Nat} {free : Addr → Prop} {bytes : ByteArray} {maxL : Nat} {ret : Option FieldType} {hh : List (Nat × Nat × Nat × Nat)}
    (hM : vx_Met l y ws rm Pc Qc XC mc ms free) (hblind : FrameBlind Pc) (hrc : rm.cells = mc) (hrs : rm.slots = ms)
    (hframes : rm.frames + 1 ≤ R.frames) (hlocals : W9 + (maxL + 11) + rm.locals ≤ R.locals)
    (hws : ∀ w ∈ ws, ∀ a' U, s.WarmedH U.vm → w.before a' U = true) (hcode : Cond.codeWith y bytes maxL ret hh ∈ ws) (hinit : ∀ a' U, s.WarmedH U.vm → (Cond.initialized y.cls).before a' U = true) :
    vx_Back l R p e below s sargs y len W9 (PreOf R mc ms Pc) (PostOf Qc mc ms free) (vx_Post XC mc ms free) := by
  intro m meth c A g ig mk a X hg hsize hdg hW hn hp
  have h1 : (headSpec ws rm).pre.before a A.U = true := atoms_intro fun w hw => hws w hw _ _ X.warmed
  have h2 : (Cond.codeWith y bytes maxL ret hh).before a A.U = true := hws _ hcode _ _ X.warmed
  have h3 : (Cond.initialized y.cls).before a A.U = true := hinit _ _ X.warmed
  have h4 : A.cells + (headSpec ws rm).room.cells ≤ R.cells := by rw [show (headSpec ws rm).room.cells = mc from hrc]; exact hp.1
  have h5 : A.slots + (headSpec ws rm).room.slots ≤ R.slots := by rw [show (headSpec ws rm).room.slots = ms from hrs]; exact hp.2.1
  have hPc : Pc a (A.U.calling g mk a) := hblind _ _ _ _ hp.2.2
  obtain ⟨U, Ls, c0, s0⟩ := A
  dsimp only [Pt.U, Pt.locs, Pt.cells, Pt.slots] at h1 h2 h3 h4 h5 X hn hPc ⊢
  obtain ⟨m9, methY, cY, hn9, hmY, hcY, -, hlY, -⟩ := Cond.codeWith_spec h2
  cases Option.some.inj (hn9.symm.trans hn)
  obtain ⟨kY, hkY, -⟩ := className_of_methodNamed hn
  have hinitY : kY.init = .initialized := Cond.initialized_spec (findClass_of_methodNamed hn) hkY h3
  have h : At U g.method c below := by rw [hg]; exact X.here
  have hlocals9 : W9 + (maxL + 11) + (headSpec ws rm).room.locals ≤ R.locals := hlocals
  have happ : (headSpec ws rm).appliesLoose y e.platform (U.calling g mk a) = true :=
    Spec.appliesLoose_calling (g := g) h hdg hn hkY hinitY
      (X.room_calling (g := g) (R' := (headSpec ws rm).room) hsize hmY hcY hframes (by rw [hlY]; omega) h4 h5) h1
  obtain ⟨mid, hmid⟩ := h.above
  have hfr : (U.setTop g).frames = (.java g :: mid) ++ below := by rw [State.frames_setTop' g h.top, hmid]; rfl
  obtain ⟨o, s₂, hsteps, -, hend, hq⟩ := Steps.callFree hM p X.admits X.cas X.clock (acts := []) hfr happ hPc trivial
  have hq' : vx_Q Qc XC mc ms free a (U.calling g mk a) o s₂ := hq
  rw [State.frames_setTop' g h.top] at hend
  obtain ⟨g₀, hg0⟩ := Option.isSome_iff_exists.mp h.top
  obtain ⟨r, hr⟩ := State.topJava?_eq_some.mp hg0
  have hr' : (({ U with heap := s₂.heap, slotsUsed := s₂.slotsUsed } : State).setVm s₂.vm).frames = .java g₀ :: r := hr
  rcases hq' with ⟨hqc, L, hfe, hL⟩ | ⟨q, rfl, E, ce, L, hx, hce, hcv, hcl, hW₂, hsm, hL⟩
  · obtain ⟨⟨v, rfl⟩, hW₂, e2, q2, q3, q4, q5, q6⟩ := id hfe
    have e3 : s₂ = ({ (U.calling g mk a).setFrames s₂.frames with heap := s₂.heap, slotsUsed := s₂.slotsUsed } : State).setVm s₂.vm := by
      have : s₂ = ({ s₂ with vm := (U.calling g mk a).vm } : State).setVm s₂.vm := rfl
      rw [e2] at this
      exact this
    obtain ⟨c₂, i₂, len₂, hc₂, hd₂, hf₂⟩ := hend
    have hW' : U.WarmedH s₂.vm := hW₂
    have hcc : c₂ = c := by
      have h1 : s₂.code? g.method = U.code? g.method := by
        rw [State.code?_eq, State.code?_eq, hW'.alike.method?]
      exact Option.some.inj (hc₂.symm.trans (h1.trans h.code))
    subst hcc
    have hlen : len₂ = len := by rw [hdg] at hd₂; cases hd₂; rfl
    subst hlen
    have hs₂ : s₂ = (({ U with heap := s₂.heap, slotsUsed := s₂.slotsUsed } : State).setVm s₂.vm).setTop { g with pc := g.pc + len₂, stack := v.toList ++ g.stack } := by
      refine e3.trans ?_
      rw [hf₂, State.calling_eq h.top, State.setFrames_setFrames, State.setTop_of_frames _ hr', hr]
      rfl
    have hsame : U.sameButNew ({ U with heap := s₂.heap, slotsUsed := s₂.slotsUsed } : State) L mc ms := by
      refine ⟨?_, q2, q3, q4, q5, q6⟩
      obtain ⟨t, ht, -⟩ := State.frames_cons hr
      show ({ U with heap := s₂.heap, slotsUsed := s₂.slotsUsed } : State) = { U.setFrames U.frames with heap := s₂.heap, slotsUsed := s₂.slotsUsed }
      rw [State.setFrames_self ht]
    subst hg
    refine Or.inl ⟨v, ⟨(({ U with heap := s₂.heap, slotsUsed := s₂.slotsUsed } : State).setVm s₂.vm), Ls ++ L, c0 + mc, s0 + ms⟩,
      ⟨X.admits, X.cas, X.clock, X.frames, X.room, X.hears, X.method, X.code, (X.here.setHeapUsed s₂.heap s₂.slotsUsed).setVm hW'.alike, X.tail, State.WarmedH.trans X.warmed hW', X.limits, X.bytes, X.same.trans (hsame.setVm s.vm)⟩,
      ⟨g, mk, s₂, L, rfl, rfl, hqc, rfl, hL, rfl, rfl⟩, ?_⟩
    show Steps p.tables e below _ ((({ U with heap := s₂.heap, slotsUsed := s₂.slotsUsed } : State).setVm s₂.vm).setTop { g with pc := g.pc + len₂, stack := v.toList ++ g.stack })
    rw [← hs₂]
    exact hsteps
  · obtain ⟨e2, q2, q3, q4, q5, q6⟩ := id hsm
    have e3 : s₂ = ({ (U.calling g mk a).setFrames s₂.frames with heap := s₂.heap, slotsUsed := s₂.slotsUsed } : State).setVm s₂.vm := by
      have : s₂ = ({ s₂ with vm := (U.calling g mk a).vm } : State).setVm s₂.vm := rfl
      rw [e2] at this
      exact this
    have hf₂ : s₂.frames = .throwing q :: .java g :: U.frames.tail := hend
    have hW' : U.WarmedH s₂.vm := hW₂
    have hs₂ : s₂ = ((({ U with heap := s₂.heap, slotsUsed := s₂.slotsUsed } : State).setVm s₂.vm).setTop g).pushFrame (.throwing q) := by
      refine e3.trans ?_
      rw [hf₂, State.calling_eq h.top, State.setFrames_setFrames, State.pushFrame, State.frames_setTop _ hr', State.setTop_of_frames _ hr', State.setFrames_setFrames, hr]
      rfl
    have hsame : U.sameButNew ({ U with heap := s₂.heap, slotsUsed := s₂.slotsUsed } : State) L mc ms := by
      refine ⟨?_, q2, q3, q4, q5, q6⟩
      obtain ⟨t, ht, -⟩ := State.frames_cons hr
      show ({ U with heap := s₂.heap, slotsUsed := s₂.slotsUsed } : State) = { U.setFrames U.frames with heap := s₂.heap, slotsUsed := s₂.slotsUsed }
      rw [State.setFrames_self ht]
    subst hg
    refine Or.inr ⟨q, ⟨(({ U with heap := s₂.heap, slotsUsed := s₂.slotsUsed } : State).setVm s₂.vm), Ls ++ L, c0 + mc, s0 + ms⟩,
      ⟨X.admits, X.cas, X.clock, X.frames, X.room, X.hears, X.method, X.code, (X.here.setHeapUsed s₂.heap s₂.slotsUsed).setVm hW'.alike, X.tail, State.WarmedH.trans X.warmed hW', X.limits, X.bytes, X.same.trans (hsame.setVm s.vm)⟩,
      ⟨g, mk, s₂, L, E, ce, rfl, rfl, hx, hce, hcv, hcl, rfl, hL, rfl, rfl⟩, ?_⟩
    show Steps p.tables e below _ (((({ U with heap := s₂.heap, slotsUsed := s₂.slotsUsed } : State).setVm s₂.vm).setTop g).pushFrame (.throwing q))
    rw [← hs₂]
    exact hsteps
end
variable {p : Program} {l : Launch} {e : Env} {R : Room} {s : State} {m : MethodId} {args : Array Value} {below : List Frame} {meth : Method} {c : Code} {T : State} {H : Heap} {locs : List Loc} {cells slots : Nat}
theorem vx_callVX (X : Stand p l e R s m args below meth c T locs cells slots) (hexec : p.tables.exec = Jvm.exec) {own C : String} {index : Nat} {y : MethodName} {bytes : ByteArray} {maxL : Nat} {ret : Option FieldType} {hh : List (Nat × Nat × Nat × Nat)}
    (hown : s.vm.findClass own = some m.cls) (hlink : (Cond.methodLink own index y).before args s = true) (hinst : (Cond.instanceMethod y).before args s = true) (hsel : (Cond.selects C y y).before args s = true)
    (hcode : (Cond.codeWith y bytes maxL ret hh).before args s = true) (hy : y.cls ≠ "java/lang/invoke/MethodHandle" ∧ y.cls ≠ "java/lang/invoke/VarHandle")
    {W9 : Nat} {Pre : Pt → Array Value → Prop} {Post : Pt → Array Value → Option Value → Pt → Prop} {PostX : Pt → Array Value → Addr → Pt → Prop} (hK : vx_Back l R p e below s args y 3 W9 Pre Post PostX)
    {b : Addr} {cellB : Cell} (hcell : T.heap[b]? = some cellB) (hobj : cellB.vm.isStatics = false) (hcls : s.vm.findClass C = some cellB.cls)
    {g : JFrame} (hg : g.method = m) (hsize : g.locals.size = c.maxLocals) {argsL rest : List Value} (hlen : ∀ sig, parseMethodDescriptor y.desc = some sig → argsL.length = sig.parameters.length)
    (hstack : g.stack = argsL.reverse ++ .ref b :: rest) (hW : 2 * g.monitorRoom + (rest.map fun v => v.category).sum ≤ W9) (hdg : decode c.code g.pc = .ok (.invokevirtual index, 3))
    (hpre : ∀ vm₁, s.WarmedH vm₁ → Pre ⟨T.setVm vm₁, locs, cells, slots⟩ (Value.ref b :: argsL).toArray) :
    (∃ (v : Option Value) (vm₁ : Vm) (B : Pt), s.WarmedH vm₁ ∧ Stand p l e R s m args below meth c B.U B.locs B.cells B.slots ∧ Post ⟨T.setVm vm₁, locs, cells, slots⟩ (Value.ref b :: argsL).toArray v B ∧
      ∀ target, Steps p.tables e below (B.U.setTop { g with pc := g.pc + 3, stack := v.toList ++ rest }) target → Steps p.tables e below (T.setTop g) target) ∨
    (∃ (q : Addr) (vm₁ : Vm) (B : Pt), s.WarmedH vm₁ ∧ Stand p l e R s m args below meth c B.U B.locs B.cells B.slots ∧ PostX ⟨T.setVm vm₁, locs, cells, slots⟩ (Value.ref b :: argsL).toArray q B ∧
      Steps p.tables e below (T.setTop g) ((B.U.setTop { g with stack := rest }).pushFrame (.throwing q))) := by
  obtain ⟨mk, methM, hnamed, hmethM, hstM, habM⟩ := Cond.instanceMethod_spec hinst
  obtain ⟨m8, methM', cM, hn8, hmethM', -, -, -, -, -, -, hsigM⟩ := Cond.codeWith_spec hcode
  cases Option.some.inj (hn8.symm.trans hnamed)
  cases hmethM.symm.trans hmethM'
  obtain ⟨c2, r2, m2, q1, q2, q3, q4, kP, hkP, hkPi⟩ := Cond.selects_spec hsel
  cases hcls.symm.trans q1
  cases (State.methodFound?_of_named hnamed hy).symm.trans q2
  cases hnamed.symm.trans q3
  have hselP : selectMethod e.platform s.vm cellB.cls mk = .method mk := by rw [Launch.admits_selectMethod X.admits]; exact q4
  obtain ⟨vm₁, X₁, hstep₁⟩ := X.invokevirtual hexec hown hlink hnamed hmethM hstM hkP hkPi hy (a := b) (cell := cellB) hcell
    (fun z h => by rw [h] at hobj; cases hobj) hselP hmethM habM hkP hkPi (g := g) hg (argsL := argsL) (rest := rest) (hlen _ hsigM) hstack hdg
  rcases hK m meth c ⟨T.setVm vm₁, locs, cells, slots⟩ { g with stack := rest } (.invokevirtual index) mk (Value.ref b :: argsL).toArray X₁ hg hsize hdg hW (X₁.named hnamed) (hpre vm₁ X₁.warmed) with ⟨v, B, X', hpost, hsteps⟩ | ⟨q, B, X', hpost, hsteps⟩
  · exact Or.inl ⟨v, vm₁, B, X₁.warmed, X', hpost, fun target h => hstep₁ _ fun acts => by rw [doInvoke_state]; exact hsteps.trans h⟩
  · exact Or.inr ⟨q, vm₁, B, X₁.warmed, X', hpost, hstep₁ _ fun acts => by rw [doInvoke_state]; exact hsteps⟩
theorem vx_callSX (X : Stand p l e R s m args below meth c T locs cells slots) (hexec : p.tables.exec = Jvm.exec) {own : String} {index : Nat} {y : MethodName} {bytes : ByteArray} {maxL : Nat} {ret : Option FieldType} {hh : List (Nat × Nat × Nat × Nat)}
    (hown : s.vm.findClass own = some m.cls) (hlink : (Cond.methodLink own index y).before args s = true) (hstat : (Cond.static y).before args s = true) (hinit : (Cond.initialized y.cls).before args s = true)
    (hcode : (Cond.codeWith y bytes maxL ret hh).before args s = true) (hy : y.cls ≠ "java/lang/invoke/MethodHandle" ∧ y.cls ≠ "java/lang/invoke/VarHandle")
    {W9 : Nat} {Pre : Pt → Array Value → Prop} {Post : Pt → Array Value → Option Value → Pt → Prop} {PostX : Pt → Array Value → Addr → Pt → Prop} (hK : vx_Back l R p e below s args y 3 W9 Pre Post PostX)
    {g : JFrame} (hg : g.method = m) (hsize : g.locals.size = c.maxLocals) {argsL rest : List Value} (hlen : ∀ sig, parseMethodDescriptor y.desc = some sig → argsL.length = sig.parameters.length)
    (hstack : g.stack = argsL.reverse ++ rest) (hW : 2 * g.monitorRoom + (rest.map fun v => v.category).sum ≤ W9) (hdg : decode c.code g.pc = .ok (.invokestatic index, 3))
    (hpre : ∀ vm₁, s.WarmedH vm₁ → Pre ⟨T.setVm vm₁, locs, cells, slots⟩ argsL.toArray) :
    (∃ (v : Option Value) (vm₁ : Vm) (B : Pt), s.WarmedH vm₁ ∧ Stand p l e R s m args below meth c B.U B.locs B.cells B.slots ∧ Post ⟨T.setVm vm₁, locs, cells, slots⟩ argsL.toArray v B ∧
      ∀ target, Steps p.tables e below (B.U.setTop { g with pc := g.pc + 3, stack := v.toList ++ rest }) target → Steps p.tables e below (T.setTop g) target) ∨
    (∃ (q : Addr) (vm₁ : Vm) (B : Pt), s.WarmedH vm₁ ∧ Stand p l e R s m args below meth c B.U B.locs B.cells B.slots ∧ PostX ⟨T.setVm vm₁, locs, cells, slots⟩ argsL.toArray q B ∧
      Steps p.tables e below (T.setTop g) ((B.U.setTop { g with stack := rest }).pushFrame (.throwing q))) := by
  obtain ⟨mk, methM, cM, hnamed, hmethM, -, -, -, -, -, -, hsigM⟩ := Cond.codeWith_spec hcode
  have hstatic : methM.isStatic = true := Cond.static_spec hnamed hmethM hstat
  obtain ⟨kP, hkP, -⟩ := className_of_methodNamed hnamed
  have hinitP : kP.init = .initialized := Cond.initialized_spec (findClass_of_methodNamed hnamed) hkP hinit
  obtain ⟨vm₁, X₁, hstep₁⟩ := X.invokestatic hexec hown hlink hnamed hmethM hstatic hkP hinitP hy (g := g) hg (argsL := argsL) (rest := rest) (hlen _ hsigM) hstack hdg
  rcases hK m meth c ⟨T.setVm vm₁, locs, cells, slots⟩ { g with stack := rest } (.invokestatic index) mk argsL.toArray X₁ hg hsize hdg hW (X₁.named hnamed) (hpre vm₁ X₁.warmed) with ⟨v, B, X', hpost, hsteps⟩ | ⟨q, B, X', hpost, hsteps⟩
  · exact Or.inl ⟨v, vm₁, B, X₁.warmed, X', hpost, fun target h => hstep₁ _ fun acts => by rw [doInvoke_state]; exact hsteps.trans h⟩
  · exact Or.inr ⟨q, vm₁, B, X₁.warmed, X', hpost, hstep₁ _ fun acts => by rw [doInvoke_state]; exact hsteps⟩
theorem vx_callVW (X : Stand p l e R s m args below meth c T locs cells slots) (hexec : p.tables.exec = Jvm.exec) {own C : String} {index : Nat} {y : MethodName} {bytes : ByteArray} {maxL : Nat} {ret : Option FieldType} {hh : List (Nat × Nat × Nat × Nat)}
    (hown : s.vm.findClass own = some m.cls) (hlink : (Cond.methodLink own index y).before args s = true) (hinst : (Cond.instanceMethod y).before args s = true) (hsel : (Cond.selects C y y).before args s = true)
    (hcode : (Cond.codeWith y bytes maxL ret hh).before args s = true) (hy : y.cls ≠ "java/lang/invoke/MethodHandle" ∧ y.cls ≠ "java/lang/invoke/VarHandle")
    {W9 : Nat} {Pre : Pt → Array Value → Prop} {Post : Pt → Array Value → Option Value → Pt → Prop} (hK : Back l R p e below s args y 3 W9 Pre Post)
    {b : Addr} {cellB : Cell} (hcell : T.heap[b]? = some cellB) (hobj : cellB.vm.isStatics = false) (hcls : s.vm.findClass C = some cellB.cls)
    {g : JFrame} (hg : g.method = m) (hsize : g.locals.size = c.maxLocals) {argsL rest : List Value} (hlen : ∀ sig, parseMethodDescriptor y.desc = some sig → argsL.length = sig.parameters.length)
    (hstack : g.stack = argsL.reverse ++ .ref b :: rest) (hW : 2 * g.monitorRoom + (rest.map fun v => v.category).sum ≤ W9) (hdg : decode c.code g.pc = .ok (.invokevirtual index, 3))
    (hpre : ∀ vm₁, s.WarmedH vm₁ → Pre ⟨T.setVm vm₁, locs, cells, slots⟩ (Value.ref b :: argsL).toArray) :
    ∃ (v : Option Value) (vm₁ : Vm) (B : Pt), s.WarmedH vm₁ ∧ Stand p l e R s m args below meth c B.U B.locs B.cells B.slots ∧ Post ⟨T.setVm vm₁, locs, cells, slots⟩ (Value.ref b :: argsL).toArray v B ∧
      ∀ target, Steps p.tables e below (B.U.setTop { g with pc := g.pc + 3, stack := v.toList ++ rest }) target → Steps p.tables e below (T.setTop g) target := by
  obtain ⟨mk, methM, hnamed, hmethM, hstM, habM⟩ := Cond.instanceMethod_spec hinst
  obtain ⟨m8, methM', cM, hn8, hmethM', -, -, -, -, -, -, hsigM⟩ := Cond.codeWith_spec hcode
  cases Option.some.inj (hn8.symm.trans hnamed)
  cases hmethM.symm.trans hmethM'
  obtain ⟨c2, r2, m2, q1, q2, q3, q4, kP, hkP, hkPi⟩ := Cond.selects_spec hsel
  cases hcls.symm.trans q1
  cases (State.methodFound?_of_named hnamed hy).symm.trans q2
  cases hnamed.symm.trans q3
  have hselP : selectMethod e.platform s.vm cellB.cls mk = .method mk := by rw [Launch.admits_selectMethod X.admits]; exact q4
  obtain ⟨vm₁, X₁, hstep₁⟩ := X.invokevirtual hexec hown hlink hnamed hmethM hstM hkP hkPi hy (a := b) (cell := cellB) hcell
    (fun z h => by rw [h] at hobj; cases hobj) hselP hmethM habM hkP hkPi (g := g) hg (argsL := argsL) (rest := rest) (hlen _ hsigM) hstack hdg
  obtain ⟨v, B, X', hpost, hsteps⟩ := hK m meth c ⟨T.setVm vm₁, locs, cells, slots⟩ { g with stack := rest } (.invokevirtual index) mk (Value.ref b :: argsL).toArray X₁ hg hsize hdg hW (X₁.named hnamed) (hpre vm₁ X₁.warmed)
  exact ⟨v, vm₁, B, X₁.warmed, X', hpost, fun target h => hstep₁ _ fun acts => by rw [doInvoke_state]; exact hsteps.trans h⟩
abbrev vx_CVW (R : Room) (s : State) (args : Array Value) (own C : String) (index : Nat) (y : MethodName) (bytes : ByteArray) (maxL : Nat) (ret : Option FieldType) (hh : List (Nat × Nat × Nat × Nat)) (ws : List Cond) (rm : Room) (mc ms n : Nat) : Prop :=
  (rm.cells = mc ∧ rm.slots = ms ∧ rm.frames + 1 ≤ R.frames ∧ 8 + (maxL + 11) + rm.locals ≤ R.locals ∧ (∀ w ∈ ws, ∀ (a' : Array Value) (U : State), s.WarmedH U.vm → w.before a' U = true) ∧ Cond.codeWith y bytes maxL ret hh ∈ ws) ∧
  (Cond.codeWith y bytes maxL ret hh).before args s = true ∧ (Cond.initialized y.cls).before args s = true ∧ (y.cls ≠ "java/lang/invoke/MethodHandle" ∧ y.cls ≠ "java/lang/invoke/VarHandle") ∧
  (∀ sig, parseMethodDescriptor y.desc = some sig → n = sig.parameters.length) ∧ (Cond.methodLink own index y).before args s = true ∧ (Cond.instanceMethod y).before args s = true ∧ (Cond.selects C y y).before args s = true
theorem vx_cwVW {own C : String} {index maxL mc ms : Nat} {y : MethodName} {bytes : ByteArray} {ret : Option FieldType} {hh : List (Nat × Nat × Nat × Nat)} {Ts ws ws' : List Cond} {rm : Room} (n : Nat) (ht : ∀ w ∈ Ts, w.before args s = true) (hT : GoodIn Ts (wsV own index C y ws)) (hw : ws = Cond.codeWith y bytes maxL ret hh :: ws') (hrc : rm.cells = mc) (hrs : rm.slots = ms)
    (hd : y.cls = C ∧ y.cls ≠ "java/lang/invoke/MethodHandle" ∧ y.cls ≠ "java/lang/invoke/VarHandle" ∧ (parseMethodDescriptor y.desc).map (fun d => d.parameters.length) = some n) (hR : rm.frames + 1 ≤ R.frames ∧ 8 + (maxL + 11) + rm.locals ≤ R.locals) :
    vx_CVW R s args own C index y bytes maxL ret hh ws rm mc ms n := by
  obtain ⟨hC, hd⟩ := hd
  subst hC
  have ok : ∀ w ∈ wsV own index y.cls y ws, w.before args s = true := fun w h => ht w (hT w h).1
  have hG : GoodIn Ts ws := fun w h => hT w (by unfold wsV; exact List.mem_append_right _ h)
  have hc : Cond.codeWith y bytes maxL ret hh ∈ ws := by rw [hw]; exact List.mem_cons_self
  refine ⟨⟨hrc, hrs, hR.1, hR.2, pay_in ht hG, hc⟩, ht _ (hG _ hc).1, ok _ (by simp [wsV]), ⟨hd.1, hd.2.1⟩, fun sig h => ?_, ok _ (by simp [wsV]), ok _ (by simp [wsV]), ok _ (by simp [wsV])⟩
  have h2 := hd.2.2
  rw [h] at h2
  exact (Option.some.inj h2).symm
theorem vx_runVW {y : MethodName} {bytes cc : ByteArray} {maxL nL mc ms n index : Nat} {ret : Option FieldType} {hh : List (Nat × Nat × Nat × Nat)} {ws : List Cond} {rm : Room} {Pc : Array Value → State → Prop} {Qc : Array Value → State → Outcome → State → Prop} {free : Addr → Prop} {Ts : List Cond} {own C : String} {b : Addr} {As rest : List Value} {g : JFrame}
    (S : CallFix p m c cc nL s args Ts own) (hM : Met l y ws rm Pc Qc mc ms free) (cw : vx_CVW R s args own C index y bytes maxL ret hh ws rm mc ms n) (hp : PreV s H C b Pc As)
    (hg : g.method = m) (hn : As.length = n) (hsize : g.locals.size = nL) (hstack : g.stack = As.reverse ++ .ref b :: rest) (hW : 2 * g.monitorRoom + (rest.map fun v => v.category).sum ≤ 8) (hdg : decode cc g.pc = .ok (.invokevirtual index, 3)) (hf : cells + mc ≤ R.cells ∧ slots + ms ≤ R.slots) :
    va_Run p l e R s m args below meth c H locs cells slots mc ms g rest (Qc (Value.ref b :: As).toArray) free := by
  obtain ⟨⟨hrc, hrs, hfr, hlo, hws, hcw⟩, hcode, hini, hy, hlen, hl, hin, hse⟩ := cw
  have hK : Back l R p e below s args y 3 8 (PreOf R mc ms Pc) (PostOf Qc mc ms free) := va_backW (hh := hh) (bytes := bytes) (maxL := maxL) (ret := ret) hM hp.1 hrc hrs hfr hlo hws hcw (fun a' U hW => word_at hW (Or.inl (by first | rfl | simp [Cond.onTables, Cond.keeps, Cond.steady])) hini)
  obtain ⟨hx, hb, hml, ho, -⟩ := S
  obtain ⟨-, ⟨cellB, hcB, hoB, hclB⟩, hPc⟩ := hp
  intro T hT X
  obtain ⟨v, vm₁, ⟨U', l2, c2, s2⟩, hW₁, X', ⟨g', mk, t, L, e1, e2, hq, h1, hL, h2, h3⟩, st⟩ := vx_callVW X hx (C := C) (hh := hh) (bytes := bytes) (maxL := maxL) (ret := ret) ho hl hin hse hcode hy hK (by rw [hT]; exact hcB) hoB hclB hg (hsize.trans hml.symm) (argsL := As) (rest := rest) (fun sig h => hn.trans (hlen sig h)) hstack hW (by rw [hb]; exact hdg)
    (fun vm₁ hW₁ => ⟨hf.1, hf.2, hPc (T.setVm vm₁) hT hW₁⟩)
  dsimp only [Pt.U, Pt.locs, Pt.cells, Pt.slots] at X' e1 e2 h1 h2 h3 st
  subst h1; subst h2; subst h3
  exact ⟨v, (T.setVm vm₁).calling g' mk (Value.ref b :: As).toArray, t, U', L, hT, X', hL, e1, e2, hq, st⟩
section
variable {y : MethodName} {bytes cc : ByteArray} {maxL nL mc ms n index : Nat} {ret : Option FieldType} {ws : List Cond} {rm : Room} {Pc : Array Value → State → Prop} {Qc : Array Value → State → Outcome → State → Prop} {XC : String → State → State → Prop} {free : Addr → Prop} {Ts : List Cond} {own C : String} {b : Addr} {As rest : List Value} {g : JFrame}
theorem vx_runVX {hh : List (Nat × Nat × Nat × Nat)} (S : CallFix p m c cc nL s args Ts own) (hM : vx_Met l y ws rm Pc Qc XC mc ms free) (cw : vx_CVW R s args own C index y bytes maxL ret hh ws rm mc ms n) (hp : PreV s H C b Pc As)
    (hg : g.method = m) (hn : As.length = n) (hsize : g.locals.size = nL) (hstack : g.stack = As.reverse ++ .ref b :: rest) (hW : 2 * g.monitorRoom + (rest.map fun v => v.category).sum ≤ 8) (hdg : decode cc g.pc = .ok (.invokevirtual index, 3)) (hf : cells + mc ≤ R.cells ∧ slots + ms ≤ R.slots) :
    vx_Run p l e R s m args below meth c H locs cells slots mc ms g rest (Qc (Value.ref b :: As).toArray) XC free := by
  obtain ⟨⟨hrc, hrs, hfr, hlo, hws, hcw⟩, hcode, hini, hy, hlen, hl, hin, hse⟩ := cw
  have hK : vx_Back l R p e below s args y 3 8 (PreOf R mc ms Pc) (PostOf Qc mc ms free) (vx_Post XC mc ms free) := vx_backW (hh := hh) (bytes := bytes) (maxL := maxL) (ret := ret) hM hp.1 hrc hrs hfr hlo hws hcw (fun a' U hW => word_at hW (Or.inl (by first | rfl | simp [Cond.onTables, Cond.keeps, Cond.steady])) hini)
  obtain ⟨hx, hb, hml, ho, -⟩ := S
  obtain ⟨-, ⟨cellB, hcB, hoB, hclB⟩, hPc⟩ := hp
  intro T hT X
  rcases vx_callVX X hx (C := C) (hh := hh) (bytes := bytes) (maxL := maxL) (ret := ret) ho hl hin hse hcode hy hK (by rw [hT]; exact hcB) hoB hclB hg (hsize.trans hml.symm) (argsL := As) (rest := rest) (fun sig h => hn.trans (hlen sig h)) hstack hW (by rw [hb]; exact hdg)
    (fun vm₁ hW₁ => ⟨hf.1, hf.2, hPc (T.setVm vm₁) hT hW₁⟩) with ⟨v, vm₁, ⟨U', l2, c2, s2⟩, hW₁, X', ⟨g', mk, t, L, e1, e2, hq, h1, hL, h2, h3⟩, st⟩ | ⟨q, vm₁, ⟨U', l2, c2, s2⟩, hW₁, X', ⟨g', mk, t, L, E, ce, e1, e2, hq, hce, hcv, hcl, h1, hL, h2, h3⟩, st⟩
  · dsimp only [Pt.U, Pt.locs, Pt.cells, Pt.slots] at X' e1 e2 h1 h2 h3 st
    subst h1; subst h2; subst h3
    exact Or.inl ⟨v, (T.setVm vm₁).calling g' mk (Value.ref b :: As).toArray, t, U', L, hT, X', hL, e1, e2, hq, st⟩
  · dsimp only [Pt.U, Pt.locs, Pt.cells, Pt.slots] at X' e1 e2 h1 h2 h3 st hcl
    subst h1; subst h2; subst h3
    exact Or.inr ⟨q, (T.setVm vm₁).calling g' mk (Value.ref b :: As).toArray, t, U', L, E, ce, hT, X', hL, e1, e2, hq, hce, hcv, vx_cls hW₁ hcl, st⟩
theorem vx_runSX {hh : List (Nat × Nat × Nat × Nat)} (S : CallFix p m c cc nL s args Ts own) (hM : vx_Met l y ws rm Pc Qc XC mc ms free) (cw : vx_CSW R s args own index y bytes maxL ret hh ws rm mc ms n) (hp : PreS s H Pc As)
    (hg : g.method = m) (hn : As.length = n) (hsize : g.locals.size = nL) (hstack : g.stack = As.reverse ++ rest) (hW : 2 * g.monitorRoom + (rest.map fun v => v.category).sum ≤ 8) (hdg : decode cc g.pc = .ok (.invokestatic index, 3)) (hf : cells + mc ≤ R.cells ∧ slots + ms ≤ R.slots) :
    vx_Run p l e R s m args below meth c H locs cells slots mc ms g rest (Qc As.toArray) XC free := by
  obtain ⟨⟨hrc, hrs, hfr, hlo, hws, hcw⟩, hcode, hini, hy, hlen, hl, hstt⟩ := cw
  have hK : vx_Back l R p e below s args y 3 8 (PreOf R mc ms Pc) (PostOf Qc mc ms free) (vx_Post XC mc ms free) := vx_backW (hh := hh) (bytes := bytes) (maxL := maxL) (ret := ret) hM hp.1 hrc hrs hfr hlo hws hcw (fun a' U hW => word_at hW (Or.inl (by first | rfl | simp [Cond.onTables, Cond.keeps, Cond.steady])) hini)
  obtain ⟨hx, hb, hml, ho, -⟩ := S
  intro T hT X
  rcases vx_callSX X hx (hh := hh) (bytes := bytes) (maxL := maxL) (ret := ret) ho hl hstt hini hcode hy hK hg (hsize.trans hml.symm) (argsL := As) (rest := rest) (fun sig h => hn.trans (hlen sig h)) hstack hW (by rw [hb]; exact hdg)
    (fun vm₁ hW₁ => ⟨hf.1, hf.2, hp.2 (T.setVm vm₁) hT hW₁⟩) with ⟨v, vm₁, ⟨U', l2, c2, s2⟩, hW₁, X', ⟨g', mk, t, L, e1, e2, hq, h1, hL, h2, h3⟩, st⟩ | ⟨q, vm₁, ⟨U', l2, c2, s2⟩, hW₁, X', ⟨g', mk, t, L, E, ce, e1, e2, hq, hce, hcv, hcl, h1, hL, h2, h3⟩, st⟩
  · dsimp only [Pt.U, Pt.locs, Pt.cells, Pt.slots] at X' e1 e2 h1 h2 h3 st
    subst h1; subst h2; subst h3
    exact Or.inl ⟨v, (T.setVm vm₁).calling g' mk As.toArray, t, U', L, hT, X', hL, e1, e2, hq, st⟩
  · dsimp only [Pt.U, Pt.locs, Pt.cells, Pt.slots] at X' e1 e2 h1 h2 h3 st hcl
    subst h1; subst h2; subst h3
    exact Or.inr ⟨q, (T.setVm vm₁).calling g' mk As.toArray, t, U', L, E, ce, hT, X', hL, e1, e2, hq, hce, hcv, vx_cls hW₁ hcl, st⟩
end
end VXH
theorem vx_ofWH {l : Launch} {y : MethodName} {ws ws' : List Cond} {rm : Room} {Pc : Array Value → State → Prop} {Qc : Array Value → State → Outcome → State → Prop} {XC : String → State → State → Prop} {mc ms : Nat} {free : Addr → Prop} {cc : ByteArray} {maxL : Nat} {ret : Option FieldType} {hh : List (Nat × Nat × Nat × Nat)}
    (hy : plainName y.cls = true) (hw : ws = Cond.codeWith y cc maxL ret hh :: ws')
    (body : ∀ p e s m args below meth c s₁, BodyLoose p l y (headSpec ws rm) cc maxL ret e s m args below meth c s₁ → c.maxLocals = maxL → Pc args s →
      W p l e (headSpec ws rm).room s m args below meth c s.heap [] 0 0 (vx_MQ below Qc XC args s mc ms free) (entryFrame m args maxL)) : vx_Met l y ws rm Pc Qc XC mc ms free := by
  refine MetFree.of_bodyS (code := cc) (maxLocals := maxL) (ret := ret) hy ?_ ?_
  · intro args s m h hn
    obtain ⟨m9, meth, c, hn9, h1, h2, h3, h4, -, h5, h6, -⟩ := Cond.codeWith_spec (atoms_spec (ws := ws) h _ (by rw [hw]; exact List.mem_cons_self))
    cases hn.symm.trans hn9
    exact ⟨meth, c, h1, h2, h3, h4, h5, h6⟩
  · intro p e s m args below meth c s₁ B hml hP _
    have hh0 : s₁.heap = s.heap := by rw [B.state]; rfl
    obtain ⟨t, a1, o, b1, b2, b3⟩ := body p e s m args below meth c s₁ B hml hP s₁ hh0 (Stand.of_body B)
    exact ⟨t, o, a1, b1, b2, b3⟩
/-! ===== END ===== -/

/-! ===== BEGIN a constructor that throws (launches without stack traces) ===== -/
section VXIA
variable {p : Program} {l : Launch} {e : Env} {R : Room} {s : State} {m : MethodId} {args : Array Value} {below : List Frame} {meth : Method} {c : Code} {T : State} {locs : List Loc} {cells slots : Nat}
theorem vx_callI (X : Stand p l e R s m args below meth c T locs cells slots) (hexec : p.tables.exec = Jvm.exec) {own : String} {index : Nat} {y : MethodName} {bytes : ByteArray} {maxL : Nat}
    (hown : s.vm.findClass own = some m.cls) (hy1 : y.name = "<init>") (hlink : (Cond.methodLink own index y).before args s = true) (hinst : (Cond.instanceMethod y).before args s = true)
    (hcode : (Cond.code y bytes maxL none).before args s = true) (hy : y.cls ≠ "java/lang/invoke/MethodHandle" ∧ y.cls ≠ "java/lang/invoke/VarHandle")
    {W9 : Nat} {Pre : Pt → Array Value → Prop} {Post : Pt → Array Value → Option Value → Pt → Prop} {PostX : Pt → Array Value → Addr → Pt → Prop} (hK : vx_Back l R p e below s args y 3 W9 Pre Post PostX)
    {g : JFrame} (hg : g.method = m) (hsize : g.locals.size = c.maxLocals) {a : Addr} {argsL rest : List Value} (hlen : ∀ sig, parseMethodDescriptor y.desc = some sig → argsL.length = sig.parameters.length)
    (hstack : g.stack = argsL.reverse ++ .ref a :: rest) (hW : 2 * g.monitorRoom + (rest.map fun v => v.category).sum ≤ W9) (hdg : decode c.code g.pc = .ok (.invokespecial index, 3))
    (hpre : ∀ vm₁, s.WarmedH vm₁ → Pre ⟨T.setVm vm₁, locs, cells, slots⟩ (Value.ref a :: argsL).toArray) :
    (∃ (v : Option Value) (vm₁ : Vm) (B : Pt), s.WarmedH vm₁ ∧ Stand p l e R s m args below meth c B.U B.locs B.cells B.slots ∧ Post ⟨T.setVm vm₁, locs, cells, slots⟩ (Value.ref a :: argsL).toArray v B ∧
      ∀ target, Steps p.tables e below (B.U.setTop { g with pc := g.pc + 3, stack := v.toList ++ rest }) target → Steps p.tables e below (T.setTop g) target) ∨
    (∃ (q : Addr) (vm₁ : Vm) (B : Pt), s.WarmedH vm₁ ∧ Stand p l e R s m args below meth c B.U B.locs B.cells B.slots ∧ PostX ⟨T.setVm vm₁, locs, cells, slots⟩ (Value.ref a :: argsL).toArray q B ∧
      Steps p.tables e below (T.setTop g) ((B.U.setTop { g with stack := rest }).pushFrame (.throwing q))) := by
  subst hg
  have hpl : e.platform.magicAccessors = ({} : Platform).magicAccessors := by rw [X.admits.platform]
  obtain ⟨mk, methM, cM, kP, vm₁, hnamed, hmethM, hcodeM, -, hlocalsM, -, hkP, -, hW₁, hstep₁⟩ := Steps.initColdArgs (e := e) X.here hexec X.warmed hpl hown hy1 hy hlink hinst hcode (f := g) rfl hlen hstack hdg
  have X₁ := X.noted hW₁
  rcases hK g.method meth c ⟨T.setVm vm₁, locs, cells, slots⟩ { g with stack := rest } (.invokespecial index) mk (Value.ref a :: argsL).toArray X₁ rfl hsize hdg hW (X₁.named hnamed) (hpre vm₁ X₁.warmed) with ⟨v, B, X', hpost, hsteps⟩ | ⟨q, B, X', hpost, hsteps⟩
  · exact Or.inl ⟨v, vm₁, B, X₁.warmed, X', hpost, fun target h => hstep₁ _ fun acts => by rw [doInvoke_state]; exact hsteps.trans h⟩
  · exact Or.inr ⟨q, vm₁, B, X₁.warmed, X', hpost, hstep₁ _ fun acts => by rw [doInvoke_state]; exact hsteps⟩
end VXIA
section VXIB
variable {p : Program} {l : Launch} {e : Env} {R : Room} {s : State} {m : MethodId} {args : Array Value} {below : List Frame} {meth : Method} {c : Code} {H : Heap} {locs : List Loc} {cells slots : Nat}
variable {y : MethodName} {bytes cc : ByteArray} {maxL nL mc ms n index : Nat} {ret : Option FieldType} {ws : List Cond} {rm : Room} {Pc : Array Value → State → Prop} {Qc : Array Value → State → Outcome → State → Prop} {XC : String → State → State → Prop} {free : Addr → Prop} {Ts : List Cond} {own C : String} {b : Addr} {As rest : List Value} {g : JFrame}
theorem vx_runI (S : CallFix p m c cc nL s args Ts own) (hM : vx_Met l y ws rm Pc Qc XC mc ms free) (cw : CallB R s args own index y bytes maxL none ws rm mc ms n ∧ y.name = "<init>" ∧ (Cond.instanceMethod y).before args s = true) (hp : PreS s H Pc (.ref b :: As))
    (hg : g.method = m) (hn : As.length = n) (hsize : g.locals.size = nL) (hstack : g.stack = As.reverse ++ .ref b :: rest) (hW : 2 * g.monitorRoom + (rest.map fun v => v.category).sum ≤ 8) (hdg : decode cc g.pc = .ok (.invokespecial index, 3)) (hf : cells + mc ≤ R.cells ∧ slots + ms ≤ R.slots) :
    vx_Run p l e R s m args below meth c H locs cells slots mc ms g rest (Qc (Value.ref b :: As).toArray) XC free := by
  have hK : vx_Back l R p e below s args y 3 8 (PreOf R mc ms Pc) (PostOf Qc mc ms free) (vx_Post XC mc ms free) := vx_callBack cw.1 hM hp.1
  obtain ⟨⟨-, -, -, -, -, -, hcode, -, hy, hlen, hl⟩, hy1, hin⟩ := cw
  obtain ⟨hx, hb, hml, ho, -⟩ := S
  have hPc := hp.2
  intro T hT X
  rcases vx_callI X hx (bytes := bytes) (maxL := maxL) ho hy1 hl hin hcode hy hK hg (hsize.trans hml.symm) (a := b) (argsL := As) (rest := rest) (fun sig h => hn.trans (hlen sig h)) hstack hW (by rw [hb]; exact hdg)
    (fun vm₁ hW₁ => ⟨hf.1, hf.2, hPc (T.setVm vm₁) hT hW₁⟩) with ⟨v, vm₁, ⟨U', l2, c2, s2⟩, hW₁, X', ⟨g', mk, t, L, e1, e2, hq, h1, hL, h2, h3⟩, st⟩ | ⟨q, vm₁, ⟨U', l2, c2, s2⟩, hW₁, X', ⟨g', mk, t, L, E, ce, e1, e2, hq, hce, hcv, hcl, h1, hL, h2, h3⟩, st⟩
  · dsimp only [Pt.U, Pt.locs, Pt.cells, Pt.slots] at X' e1 e2 h1 h2 h3 st
    subst h1; subst h2; subst h3
    exact Or.inl ⟨v, (T.setVm vm₁).calling g' mk (Value.ref b :: As).toArray, t, U', L, hT, X', hL, e1, e2, hq, st⟩
  · dsimp only [Pt.U, Pt.locs, Pt.cells, Pt.slots] at X' e1 e2 h1 h2 h3 st hcl
    subst h1; subst h2; subst h3
    exact Or.inr ⟨q, (T.setVm vm₁).calling g' mk (Value.ref b :: As).toArray, t, U', L, E, ce, hT, X', hL, e1, e2, hq, hce, hcv, vx_cls hW₁ hcl, st⟩
end VXIB
/-! ===== END ===== -/
/-! ===== BEGIN a private constructor of a nest mate that throws ===== -/
section VXIC
variable {p : Program} {l : Launch} {e : Env} {R : Room} {s : State} {m : MethodId} {args : Array Value} {below : List Frame} {meth : Method} {c : Code} {T : State} {locs : List Loc} {cells slots : Nat}
theorem vx_callIN (X : Stand p l e R s m args below meth c T locs cells slots) (hexec : p.tables.exec = Jvm.exec) {own : String} {index : Nat} {host : String} {y : MethodName} {bytes : ByteArray} {maxL : Nat}
    (hown : s.vm.findClass own = some m.cls) (hy1 : y.name = "<init>") (hlink : (Cond.methodLinkNest own index y host).before args s = true) (hinst : (Cond.instanceMethod y).before args s = true)
    (hcode : (Cond.code y bytes maxL none).before args s = true) (hy : y.cls ≠ "java/lang/invoke/MethodHandle" ∧ y.cls ≠ "java/lang/invoke/VarHandle")
    {W9 : Nat} {Pre : Pt → Array Value → Prop} {Post : Pt → Array Value → Option Value → Pt → Prop} {PostX : Pt → Array Value → Addr → Pt → Prop} (hK : vx_Back l R p e below s args y 3 W9 Pre Post PostX)
    {g : JFrame} (hg : g.method = m) (hsize : g.locals.size = c.maxLocals) {a : Addr} {argsL rest : List Value} (hlen : ∀ sig, parseMethodDescriptor y.desc = some sig → argsL.length = sig.parameters.length)
    (hstack : g.stack = argsL.reverse ++ .ref a :: rest) (hW : 2 * g.monitorRoom + (rest.map fun v => v.category).sum ≤ W9) (hdg : decode c.code g.pc = .ok (.invokespecial index, 3))
    (hpre : ∀ vm₁, s.WarmedH vm₁ → Pre ⟨T.setVm vm₁, locs, cells, slots⟩ (Value.ref a :: argsL).toArray) :
    (∃ (v : Option Value) (vm₁ : Vm) (B : Pt), s.WarmedH vm₁ ∧ Stand p l e R s m args below meth c B.U B.locs B.cells B.slots ∧ Post ⟨T.setVm vm₁, locs, cells, slots⟩ (Value.ref a :: argsL).toArray v B ∧
      ∀ target, Steps p.tables e below (B.U.setTop { g with pc := g.pc + 3, stack := v.toList ++ rest }) target → Steps p.tables e below (T.setTop g) target) ∨
    (∃ (q : Addr) (vm₁ : Vm) (B : Pt), s.WarmedH vm₁ ∧ Stand p l e R s m args below meth c B.U B.locs B.cells B.slots ∧ PostX ⟨T.setVm vm₁, locs, cells, slots⟩ (Value.ref a :: argsL).toArray q B ∧
      Steps p.tables e below (T.setTop g) ((B.U.setTop { g with stack := rest }).pushFrame (.throwing q))) := by
  subst hg
  have hpl : e.platform.magicAccessors = ({} : Platform).magicAccessors := by rw [X.admits.platform]
  obtain ⟨mk, methM, cM, kP, vm₁, hnamed, hmethM, hcodeM, -, hlocalsM, -, hkP, -, hW₁, hstep₁⟩ := Steps.initColdArgsNest (e := e) X.here hexec X.warmed hpl hown hy1 hy hlink hinst hcode (f := g) rfl hlen hstack hdg
  have X₁ := X.noted hW₁
  rcases hK g.method meth c ⟨T.setVm vm₁, locs, cells, slots⟩ { g with stack := rest } (.invokespecial index) mk (Value.ref a :: argsL).toArray X₁ rfl hsize hdg hW (X₁.named hnamed) (hpre vm₁ X₁.warmed) with ⟨v, B, X', hpost, hsteps⟩ | ⟨q, B, X', hpost, hsteps⟩
  · exact Or.inl ⟨v, vm₁, B, X₁.warmed, X', hpost, fun target h => hstep₁ _ fun acts => by rw [doInvoke_state]; exact hsteps.trans h⟩
  · exact Or.inr ⟨q, vm₁, B, X₁.warmed, X', hpost, hstep₁ _ fun acts => by rw [doInvoke_state]; exact hsteps⟩
end VXIC
section VXID
variable {p : Program} {l : Launch} {e : Env} {R : Room} {s : State} {m : MethodId} {args : Array Value} {below : List Frame} {meth : Method} {c : Code} {H : Heap} {locs : List Loc} {cells slots : Nat}
theorem vx_runIN {y : MethodName} {bytes cc : ByteArray} {maxL nL mc ms n index : Nat} {ws : List Cond} {rm : Room} {Pc : Array Value → State → Prop} {Qc : Array Value → State → Outcome → State → Prop} {XC : String → State → State → Prop} {free : Addr → Prop} {Ts : List Cond} {own host : String} {b : Addr} {As rest : List Value} {g : JFrame}
    (S : CallFix p m c cc nL s args Ts own) (hM : vx_Met l y ws rm Pc Qc XC mc ms free) (cw : va_CN R s args own index y host bytes maxL none ws rm mc ms n ∧ y.name = "<init>" ∧ (Cond.instanceMethod y).before args s = true) (hp : PreS s H Pc (.ref b :: As))
    (hg : g.method = m) (hn : As.length = n) (hsize : g.locals.size = nL) (hstack : g.stack = As.reverse ++ .ref b :: rest) (hW : 2 * g.monitorRoom + (rest.map fun v => v.category).sum ≤ 8) (hdg : decode cc g.pc = .ok (.invokespecial index, 3)) (hf : cells + mc ≤ R.cells ∧ slots + ms ≤ R.slots) :
    vx_Run p l e R s m args below meth c H locs cells slots mc ms g rest (Qc (Value.ref b :: As).toArray) XC free := by
  obtain ⟨⟨⟨hrc, hrs, hfr, hlo, hws, hcw⟩, hcode, hini, hy, hlen, hl⟩, hx1, hx2⟩ := cw
  have hK : vx_Back l R p e below s args y 3 8 (PreOf R mc ms Pc) (PostOf Qc mc ms free) (vx_Post XC mc ms free) := vx_back (bytes := bytes) (maxL := maxL) (ret := none) hM hp.1 hrc hrs hfr hlo hws hcw (fun a' U hW => word_at hW (Or.inl (by first | rfl | simp [Cond.onTables, Cond.keeps, Cond.steady])) hini)
  obtain ⟨hx, hb, hml, ho, -⟩ := S
  have hPc := hp.2
  intro T hT X
  rcases vx_callIN X hx (bytes := bytes) (maxL := maxL) ho hx1 hl hx2 hcode hy hK hg (hsize.trans hml.symm) (a := b) (argsL := As) (rest := rest) (fun sig h => hn.trans (hlen sig h)) hstack hW (by rw [hb]; exact hdg)
    (fun vm₁ hW₁ => ⟨hf.1, hf.2, hPc (T.setVm vm₁) hT hW₁⟩) with ⟨v, vm₁, ⟨U', l2, c2, s2⟩, hW₁, X', ⟨g', mk, t, L, e1, e2, hq, h1, hL, h2, h3⟩, st⟩ | ⟨q, vm₁, ⟨U', l2, c2, s2⟩, hW₁, X', ⟨g', mk, t, L, E, ce, e1, e2, hq, hce, hcv, hcl, h1, hL, h2, h3⟩, st⟩
  · dsimp only [Pt.U, Pt.locs, Pt.cells, Pt.slots] at X' e1 e2 h1 h2 h3 st
    subst h1; subst h2; subst h3
    exact Or.inl ⟨v, (T.setVm vm₁).calling g' mk (Value.ref b :: As).toArray, t, U', L, hT, X', hL, e1, e2, hq, st⟩
  · dsimp only [Pt.U, Pt.locs, Pt.cells, Pt.slots] at X' e1 e2 h1 h2 h3 st hcl
    subst h1; subst h2; subst h3
    exact Or.inr ⟨q, (T.setVm vm₁).calling g' mk (Value.ref b :: As).toArray, t, U', L, E, ce, hT, X', hL, e1, e2, hq, hce, hcv, vx_cls hW₁ hcl, st⟩
end VXID
/-! ===== END ===== -/
end
section
def RX0 : String := "RandomWalks$Costs"
def TX0 : u_T := fun k => match k with
  | 0 => ("RandomWalks$Costs", "stack", "[I", true)
  | _ => ("RandomWalks$Costs", "table", "[I", true)
def tyX0 : Nat → FieldType := fun k => match k with
  | 0 => .array .int
  | _ => .array .int
abbrev wsX00 : List Cond := u_ws RX0 TX0 2
theorem nmX0 : ∀ a, a < 2 → ∀ b, b < 2 → a ≠ b → (TX0 a).2.1 ≠ (TX0 b).2.1 := by decide +kernel
theorem tyX0_ok : ∀ k, k < 2 → parseFieldDescriptor (TX0 k).2.2.1 = some (tyX0 k) := by decide +kernel
abbrev cX0_init : ByteArray := prog_2_method_1_code
def yX0_init : MethodName := ⟨RX0, "<init>", "()V"⟩
abbrev cX0_costOfStep : ByteArray := prog_2_method_2_code
def yX0_costOfStep : MethodName := ⟨RX0, "costOfStep", "(LRandomWalks$Graph;II)I"⟩
abbrev cX0_fillTable : ByteArray := prog_2_method_3_code
def yX0_fillTable : MethodName := ⟨RX0, "fillTable", "(LRandomWalks$Graph;)V"⟩
abbrev cX0_tabled : ByteArray := prog_2_method_4_code
def yX0_tabled : MethodName := ⟨RX0, "tabled", "(II)I"⟩
abbrev cX0_evaluate : ByteArray := prog_2_method_5_code
def yX0_evaluate : MethodName := ⟨RX0, "evaluate", "([IIII)I"⟩
abbrev cX0_operand : ByteArray := prog_2_method_6_code
def yX0_operand : MethodName := ⟨RX0, "operand", "(IIII)I"⟩
abbrev cX0_operate : ByteArray := prog_2_method_7_code
def yX0_operate : MethodName := ⟨RX0, "operate", "(IJJ)I"⟩
def RX1 : String := "RandomWalks$Equations"
def TX1 : u_T := fun k => match k with
  | 0 => ("RandomWalks$Equations", "cells", "[J", true)
  | 1 => ("RandomWalks$Equations", "unknown", "[I", true)
  | 2 => ("RandomWalks$Equations", "noGains", "[J", true)
  | _ => ("RandomWalks$Equations", "count", "I", false)
def tyX1 : Nat → FieldType := fun k => match k with
  | 0 => .array .long
  | 1 => .array .int
  | 2 => .array .long
  | _ => .int
abbrev wsX10 : List Cond := u_ws RX1 TX1 4
theorem nmX1 : ∀ a, a < 4 → ∀ b, b < 4 → a ≠ b → (TX1 a).2.1 ≠ (TX1 b).2.1 := by decide +kernel
theorem tyX1_ok : ∀ k, k < 4 → parseFieldDescriptor (TX1 k).2.2.1 = some (tyX1 k) := by decide +kernel
abbrev cX1_init : ByteArray := prog_3_method_1_code
def yX1_init : MethodName := ⟨RX1, "<init>", "()V"⟩
abbrev cX1_meanUntil : ByteArray := prog_3_method_2_code
def yX1_meanUntil : MethodName := ⟨RX1, "meanUntil", "(LRandomWalks$Graph;II[JLRandomWalks$Fraction;)V"⟩
abbrev cX1_solve : ByteArray := prog_3_method_3_code
def yX1_solve : MethodName := ⟨RX1, "solve", "(LRandomWalks$Graph;II[JLRandomWalks$Fraction;)V"⟩
abbrev cX1_treesOf : ByteArray := prog_3_method_4_code
def yX1_treesOf : MethodName := ⟨RX1, "treesOf", "(LRandomWalks$Graph;)J"⟩
abbrev cX1_build : ByteArray := prog_3_method_5_code
def yX1_build : MethodName := ⟨RX1, "build", "(LRandomWalks$Graph;II[J)V"⟩
abbrev cX1_eliminate : ByteArray := prog_3_method_6_code
def yX1_eliminate : MethodName := ⟨RX1, "eliminate", "()Z"⟩
abbrev cX1_cell : ByteArray := prog_3_method_7_code
def yX1_cell : MethodName := ⟨RX1, "cell", "(II)J"⟩
abbrev cX1_putCell : ByteArray := prog_3_method_8_code
def yX1_putCell : MethodName := ⟨RX1, "putCell", "(IIJ)V"⟩
def RX2 : String := "RandomWalks$Fraction"
def TX2 : u_T := fun k => match k with
  | 0 => ("RandomWalks$Fraction", "above", "J", false)
  | _ => ("RandomWalks$Fraction", "below", "J", false)
def tyX2 : Nat → FieldType := fun k => match k with
  | 0 => .long
  | _ => .long
abbrev wsX20 : List Cond := u_ws RX2 TX2 2
theorem nmX2 : ∀ a, a < 2 → ∀ b, b < 2 → a ≠ b → (TX2 a).2.1 ≠ (TX2 b).2.1 := by decide +kernel
theorem tyX2_ok : ∀ k, k < 2 → parseFieldDescriptor (TX2 k).2.2.1 = some (tyX2 k) := by decide +kernel
abbrev cX2_init : ByteArray := prog_4_method_1_code
def yX2_init : MethodName := ⟨RX2, "<init>", "()V"⟩
abbrev cX2_put : ByteArray := prog_4_method_2_code
def yX2_put : MethodName := ⟨RX2, "put", "(JJ)V"⟩
abbrev cX2_add : ByteArray := prog_4_method_3_code
def yX2_add : MethodName := ⟨RX2, "add", "(LRandomWalks$Fraction;)V"⟩
abbrev cX2_divideBy : ByteArray := prog_4_method_4_code
def yX2_divideBy : MethodName := ⟨RX2, "divideBy", "(J)V"⟩
abbrev cX2_part : ByteArray := prog_4_method_5_code
def yX2_part : MethodName := ⟨RX2, "part", "(Z)J"⟩
abbrev cX2_commonDivisor : ByteArray := prog_4_method_6_code
def yX2_commonDivisor : MethodName := ⟨RX2, "commonDivisor", "(JJ)J"⟩
def RX3 : String := "RandomWalks$Graph"
def TX3 : u_T := fun k => match k with
  | 0 => ("RandomWalks$Graph", "vertices", "I", false)
  | 1 => ("RandomWalks$Graph", "edges", "I", false)
  | 2 => ("RandomWalks$Graph", "absorbing", "I", false)
  | 3 => ("RandomWalks$Graph", "blocks", "I", false)
  | 4 => ("RandomWalks$Graph", "low", "[I", true)
  | 5 => ("RandomWalks$Graph", "high", "[I", true)
  | 6 => ("RandomWalks$Graph", "weights", "[I", true)
  | 7 => ("RandomWalks$Graph", "block", "[I", true)
  | 8 => ("RandomWalks$Graph", "oldBlock", "[I", true)
  | _ => ("RandomWalks$Graph", "formula", "[I", false)
def tyX3 : Nat → FieldType := fun k => match k with
  | 0 => .int
  | 1 => .int
  | 2 => .int
  | 3 => .int
  | 4 => .array .int
  | 5 => .array .int
  | 6 => .array .int
  | 7 => .array .int
  | 8 => .array .int
  | _ => .array .int
abbrev wsX30 : List Cond := u_ws RX3 TX3 10
theorem nmX3 : ∀ a, a < 10 → ∀ b, b < 10 → a ≠ b → (TX3 a).2.1 ≠ (TX3 b).2.1 := by decide +kernel
theorem tyX3_ok : ∀ k, k < 10 → parseFieldDescriptor (TX3 k).2.2.1 = some (tyX3 k) := by decide +kernel
abbrev cX3_init : ByteArray := prog_5_method_1_code
def yX3_init : MethodName := ⟨RX3, "<init>", "()V"⟩
abbrev cX3_copyFrom : ByteArray := prog_5_method_2_code
def yX3_copyFrom : MethodName := ⟨RX3, "copyFrom", "(LRandomWalks$Graph;)V"⟩
abbrev cX3_clear : ByteArray := prog_5_method_3_code
def yX3_clear : MethodName := ⟨RX3, "clear", "(I)V"⟩
abbrev cX3_weightBetween : ByteArray := prog_5_method_4_code
def yX3_weightBetween : MethodName := ⟨RX3, "weightBetween", "(II)I"⟩
abbrev cX3_putWeight : ByteArray := prog_5_method_5_code
def yX3_putWeight : MethodName := ⟨RX3, "putWeight", "(III)V"⟩
abbrev cX3_putEdge : ByteArray := prog_5_method_6_code
def yX3_putEdge : MethodName := ⟨RX3, "putEdge", "(III)V"⟩
abbrev cX3_dropEdge : ByteArray := prog_5_method_7_code
def yX3_dropEdge : MethodName := ⟨RX3, "dropEdge", "(I)V"⟩
abbrev cX3_isAbsorbing : ByteArray := prog_5_method_8_code
def yX3_isAbsorbing : MethodName := ⟨RX3, "isAbsorbing", "(I)Z"⟩
abbrev cX3_sumOfWeights : ByteArray := prog_5_method_9_code
def yX3_sumOfWeights : MethodName := ⟨RX3, "sumOfWeights", "(I)I"⟩
abbrev cX3_component : ByteArray := prog_5_method_10_code
def yX3_component : MethodName := ⟨RX3, "component", "(I)I"⟩
abbrev cX3_hasWay : ByteArray := prog_5_method_11_code
def yX3_hasWay : MethodName := ⟨RX3, "hasWay", "(II)Z"⟩
abbrev cX3_stepChance : ByteArray := prog_5_method_12_code
def yX3_stepChance : MethodName := ⟨RX3, "stepChance", "(IILRandomWalks$Fraction;)V"⟩
abbrev cX3_uniteBlocks : ByteArray := prog_5_method_13_code
def yX3_uniteBlocks : MethodName := ⟨RX3, "uniteBlocks", "(II)V"⟩
abbrev cX3_isolateInBlock : ByteArray := prog_5_method_14_code
def yX3_isolateInBlock : MethodName := ⟨RX3, "isolateInBlock", "(I)V"⟩
abbrev cX3_numberBlocks : ByteArray := prog_5_method_15_code
def yX3_numberBlocks : MethodName := ⟨RX3, "numberBlocks", "()V"⟩
abbrev cX3_neighbours : ByteArray := prog_5_method_16_code
def yX3_neighbours : MethodName := ⟨RX3, "neighbours", "(I)I"⟩
def RX4 : String := "RandomWalks$History"
def TX4 : u_T := fun k => match k with
  | 0 => ("RandomWalks$History", "kept", "[LRandomWalks$Graph;", true)
  | 1 => ("RandomWalks$History", "next", "I", false)
  | _ => ("RandomWalks$History", "count", "I", false)
def tyX4 : Nat → FieldType := fun k => match k with
  | 0 => .array (.object "RandomWalks$Graph")
  | 1 => .int
  | _ => .int
abbrev wsX40 : List Cond := u_ws RX4 TX4 3
theorem nmX4 : ∀ a, a < 3 → ∀ b, b < 3 → a ≠ b → (TX4 a).2.1 ≠ (TX4 b).2.1 := by decide +kernel
theorem tyX4_ok : ∀ k, k < 3 → parseFieldDescriptor (TX4 k).2.2.1 = some (tyX4 k) := by decide +kernel
abbrev cX4_init : ByteArray := prog_6_method_1_code
def yX4_init : MethodName := ⟨RX4, "<init>", "()V"⟩
abbrev cX4_keep : ByteArray := prog_6_method_2_code
def yX4_keep : MethodName := ⟨RX4, "keep", "(LRandomWalks$Graph;)V"⟩
abbrev cX4_restore : ByteArray := prog_6_method_3_code
def yX4_restore : MethodName := ⟨RX4, "restore", "(LRandomWalks$Graph;)I"⟩
def RX5 : String := "RandomWalks$Partition"
def TX5 : u_T := fun k => match k with
  | 0 => ("RandomWalks$Partition", "lump", "LRandomWalks$Graph;", true)
  | 1 => ("RandomWalks$Partition", "lumpGains", "[J", true)
  | _ => ("RandomWalks$Partition", "finer", "[I", true)
def tyX5 : Nat → FieldType := fun k => match k with
  | 0 => .object "RandomWalks$Graph"
  | 1 => .array .long
  | _ => .array .int
abbrev wsX50 : List Cond := u_ws RX5 TX5 3
theorem nmX5 : ∀ a, a < 3 → ∀ b, b < 3 → a ≠ b → (TX5 a).2.1 ≠ (TX5 b).2.1 := by decide +kernel
theorem tyX5_ok : ∀ k, k < 3 → parseFieldDescriptor (TX5 k).2.2.1 = some (tyX5 k) := by decide +kernel
abbrev cX5_init : ByteArray := prog_7_method_1_code
def yX5_init : MethodName := ⟨RX5, "<init>", "()V"⟩
abbrev cX5_firstParted : ByteArray := prog_7_method_2_code
def yX5_firstParted : MethodName := ⟨RX5, "firstParted", "(LRandomWalks$Graph;)I"⟩
abbrev cX5_refineBlocks : ByteArray := prog_7_method_3_code
def yX5_refineBlocks : MethodName := ⟨RX5, "refineBlocks", "(LRandomWalks$Graph;)V"⟩
abbrev cX5_lumpBlocks : ByteArray := prog_7_method_4_code
def yX5_lumpBlocks : MethodName := ⟨RX5, "lumpBlocks", "(LRandomWalks$Graph;)V"⟩
abbrev cX5_blockChance : ByteArray := prog_7_method_5_code
def yX5_blockChance : MethodName := ⟨RX5, "blockChance", "(IILRandomWalks$Fraction;)V"⟩
abbrev cX5_firstDifference : ByteArray := prog_7_method_6_code
def yX5_firstDifference : MethodName := ⟨RX5, "firstDifference", "(LRandomWalks$Graph;II)I"⟩
abbrev cX5_weightTo : ByteArray := prog_7_method_7_code
def yX5_weightTo : MethodName := ⟨RX5, "weightTo", "(LRandomWalks$Graph;II)I"⟩
abbrev cX5_divideAll : ByteArray := prog_7_method_8_code
def yX5_divideAll : MethodName := ⟨RX5, "divideAll", "(LRandomWalks$Graph;)V"⟩
abbrev cX5_staysWith : ByteArray := prog_7_method_9_code
def yX5_staysWith : MethodName := ⟨RX5, "staysWith", "(LRandomWalks$Graph;II)Z"⟩
def RX6 : String := "RandomWalks$Reader"
def TX6 : u_T := fun k => match k with
  | 0 => ("RandomWalks$Reader", "tokens", "LRandomWalks$Tokens;", true)
  | 1 => ("RandomWalks$Reader", "draft", "LRandomWalks$Graph;", true)
  | 2 => ("RandomWalks$Reader", "error", "I", false)
  | 3 => ("RandomWalks$Reader", "errorAt", "I", false)
  | 4 => ("RandomWalks$Reader", "next", "I", false)
  | 5 => ("RandomWalks$Reader", "kind", "I", false)
  | 6 => ("RandomWalks$Reader", "start", "I", false)
  | 7 => ("RandomWalks$Reader", "value", "I", false)
  | 8 => ("RandomWalks$Reader", "hasCost", "Z", false)
  | 9 => ("RandomWalks$Reader", "code", "[I", true)
  | 10 => ("RandomWalks$Reader", "codeLength", "I", false)
  | 11 => ("RandomWalks$Reader", "waiting", "[I", true)
  | _ => ("RandomWalks$Reader", "waitingCount", "I", false)
def tyX6 : Nat → FieldType := fun k => match k with
  | 0 => .object "RandomWalks$Tokens"
  | 1 => .object "RandomWalks$Graph"
  | 2 => .int
  | 3 => .int
  | 4 => .int
  | 5 => .int
  | 6 => .int
  | 7 => .int
  | 8 => .boolean
  | 9 => .array .int
  | 10 => .int
  | 11 => .array .int
  | _ => .int
abbrev wsX60 : List Cond := u_ws RX6 TX6 13
theorem nmX6 : ∀ a, a < 13 → ∀ b, b < 13 → a ≠ b → (TX6 a).2.1 ≠ (TX6 b).2.1 := by decide +kernel
theorem tyX6_ok : ∀ k, k < 13 → parseFieldDescriptor (TX6 k).2.2.1 = some (tyX6 k) := by decide +kernel
abbrev cX6_init : ByteArray := prog_8_method_1_code
def yX6_init : MethodName := ⟨RX6, "<init>", "()V"⟩
abbrev cX6_readSetup : ByteArray := prog_8_method_2_code
def yX6_readSetup : MethodName := ⟨RX6, "readSetup", "()Z"⟩
abbrev cX6_readStatement : ByteArray := prog_8_method_3_code
def yX6_readStatement : MethodName := ⟨RX6, "readStatement", "()Z"⟩
abbrev cX6_readEdge : ByteArray := prog_8_method_4_code
def yX6_readEdge : MethodName := ⟨RX6, "readEdge", "()Z"⟩
abbrev cX6_readAbsorb : ByteArray := prog_8_method_5_code
def yX6_readAbsorb : MethodName := ⟨RX6, "readAbsorb", "()Z"⟩
abbrev cX6_readJoin : ByteArray := prog_8_method_6_code
def yX6_readJoin : MethodName := ⟨RX6, "readJoin", "()Z"⟩
abbrev cX6_readCost : ByteArray := prog_8_method_7_code
def yX6_readCost : MethodName := ⟨RX6, "readCost", "()Z"⟩
abbrev cX6_readFactor : ByteArray := prog_8_method_8_code
def yX6_readFactor : MethodName := ⟨RX6, "readFactor", "()Z"⟩
abbrev cX6_emit : ByteArray := prog_8_method_9_code
def yX6_emit : MethodName := ⟨RX6, "emit", "(I)V"⟩
abbrev cX6_postpone : ByteArray := prog_8_method_10_code
def yX6_postpone : MethodName := ⟨RX6, "postpone", "(I)V"⟩
abbrev cX6_release : ByteArray := prog_8_method_11_code
def yX6_release : MethodName := ⟨RX6, "release", "(I)V"⟩
abbrev cX6_strength : ByteArray := prog_8_method_12_code
def yX6_strength : MethodName := ⟨RX6, "strength", "(I)I"⟩
abbrev cX6_operation : ByteArray := prog_8_method_13_code
def yX6_operation : MethodName := ⟨RX6, "operation", "(I)I"⟩
abbrev cX6_readVertex : ByteArray := prog_8_method_14_code
def yX6_readVertex : MethodName := ⟨RX6, "readVertex", "()Z"⟩
abbrev cX6_readNumber : ByteArray := prog_8_method_15_code
def yX6_readNumber : MethodName := ⟨RX6, "readNumber", "(II)Z"⟩
abbrev cX6_readSemicolon : ByteArray := prog_8_method_16_code
def yX6_readSemicolon : MethodName := ⟨RX6, "readSemicolon", "()Z"⟩
abbrev cX6_takeToken : ByteArray := prog_8_method_17_code
def yX6_takeToken : MethodName := ⟨RX6, "takeToken", "()V"⟩
abbrev cX6_fail : ByteArray := prog_8_method_18_code
def yX6_fail : MethodName := ⟨RX6, "fail", "(I)Z"⟩
def RX7 : String := "RandomWalks$Spread"
def TX7 : u_T := fun k => match k with
  | 0 => ("RandomWalks$Spread", "chances", "[F", true)
  | 1 => ("RandomWalks$Spread", "now", "[F", true)
  | 2 => ("RandomWalks$Spread", "next", "[F", true)
  | _ => ("RandomWalks$Spread", "chance", "LRandomWalks$Fraction;", true)
def tyX7 : Nat → FieldType := fun k => match k with
  | 0 => .array .float
  | 1 => .array .float
  | 2 => .array .float
  | _ => .object "RandomWalks$Fraction"
abbrev wsX70 : List Cond := u_ws RX7 TX7 4
theorem nmX7 : ∀ a, a < 4 → ∀ b, b < 4 → a ≠ b → (TX7 a).2.1 ≠ (TX7 b).2.1 := by decide +kernel
theorem tyX7_ok : ∀ k, k < 4 → parseFieldDescriptor (TX7 k).2.2.1 = some (tyX7 k) := by decide +kernel
abbrev cX7_init : ByteArray := prog_9_method_1_code
def yX7_init : MethodName := ⟨RX7, "<init>", "()V"⟩
abbrev cX7_chanceAfter : ByteArray := prog_9_method_2_code
def yX7_chanceAfter : MethodName := ⟨RX7, "chanceAfter", "(LRandomWalks$Graph;III)F"⟩
abbrev cX7_fillChances : ByteArray := prog_9_method_3_code
def yX7_fillChances : MethodName := ⟨RX7, "fillChances", "(LRandomWalks$Graph;)V"⟩
abbrev cX7_chanceAt : ByteArray := prog_9_method_4_code
def yX7_chanceAt : MethodName := ⟨RX7, "chanceAt", "(LRandomWalks$Graph;I)F"⟩
def RX8 : String := "RandomWalks$Stroll"
def TX8 : u_T := fun k => match k with
  | 0 => ("RandomWalks$Stroll", "drawing", "J", false)
  | 1 => ("RandomWalks$Stroll", "place", "I", false)
  | 2 => ("RandomWalks$Stroll", "seen", "I", false)
  | 3 => ("RandomWalks$Stroll", "cost", "I", false)
  | _ => ("RandomWalks$Stroll", "stepsUntilAbsorbing", "I", false)
def tyX8 : Nat → FieldType := fun k => match k with
  | 0 => .long
  | 1 => .int
  | 2 => .int
  | 3 => .int
  | _ => .int
abbrev wsX80 : List Cond := u_ws RX8 TX8 5
theorem nmX8 : ∀ a, a < 5 → ∀ b, b < 5 → a ≠ b → (TX8 a).2.1 ≠ (TX8 b).2.1 := by decide +kernel
theorem tyX8_ok : ∀ k, k < 5 → parseFieldDescriptor (TX8 k).2.2.1 = some (tyX8 k) := by decide +kernel
abbrev cX8_init : ByteArray := prog_10_method_1_code
def yX8_init : MethodName := ⟨RX8, "<init>", "()V"⟩
abbrev cX8_go : ByteArray := prog_10_method_2_code
def yX8_go : MethodName := ⟨RX8, "go", "(LRandomWalks$Graph;LRandomWalks$Costs;III)V"⟩
abbrev cX8_told : ByteArray := prog_10_method_3_code
def yX8_told : MethodName := ⟨RX8, "told", "(I)I"⟩
abbrev cX8_drawStep : ByteArray := prog_10_method_4_code
def yX8_drawStep : MethodName := ⟨RX8, "drawStep", "(LRandomWalks$Graph;)I"⟩
def RX9 : String := "RandomWalks$Tokens"
def TX9 : u_T := fun k => match k with
  | 0 => ("RandomWalks$Tokens", "text", "[B", true)
  | 1 => ("RandomWalks$Tokens", "held", "I", false)
  | 2 => ("RandomWalks$Tokens", "kinds", "[I", true)
  | 3 => ("RandomWalks$Tokens", "starts", "[I", true)
  | 4 => ("RandomWalks$Tokens", "values", "[I", true)
  | _ => ("RandomWalks$Tokens", "count", "I", false)
def tyX9 : Nat → FieldType := fun k => match k with
  | 0 => .array .byte
  | 1 => .int
  | 2 => .array .int
  | 3 => .array .int
  | 4 => .array .int
  | _ => .int
abbrev wsX90 : List Cond := u_ws RX9 TX9 6
theorem nmX9 : ∀ a, a < 6 → ∀ b, b < 6 → a ≠ b → (TX9 a).2.1 ≠ (TX9 b).2.1 := by decide +kernel
theorem tyX9_ok : ∀ k, k < 6 → parseFieldDescriptor (TX9 k).2.2.1 = some (tyX9 k) := by decide +kernel
abbrev cX9_init : ByteArray := prog_11_method_1_code
def yX9_init : MethodName := ⟨RX9, "<init>", "()V"⟩
abbrev cX9_hold : ByteArray := prog_11_method_2_code
def yX9_hold : MethodName := ⟨RX9, "hold", "(I)V"⟩
abbrev cX9_scan : ByteArray := prog_11_method_3_code
def yX9_scan : MethodName := ⟨RX9, "scan", "(I)V"⟩
abbrev cX9_scanToken : ByteArray := prog_11_method_4_code
def yX9_scanToken : MethodName := ⟨RX9, "scanToken", "(II)I"⟩
abbrev cX9_scanNumber : ByteArray := prog_11_method_5_code
def yX9_scanNumber : MethodName := ⟨RX9, "scanNumber", "(II)I"⟩
abbrev cX9_scanWord : ByteArray := prog_11_method_6_code
def yX9_scanWord : MethodName := ⟨RX9, "scanWord", "(II)I"⟩
abbrev cX9_kindOfWord : ByteArray := prog_11_method_7_code
def yX9_kindOfWord : MethodName := ⟨RX9, "kindOfWord", "(II)I"⟩
abbrev cX9_isWord : ByteArray := prog_11_method_8_code
def yX9_isWord : MethodName := ⟨RX9, "isWord", "(Ljava/lang/String;II)Z"⟩
abbrev cX9_put : ByteArray := prog_11_method_9_code
def yX9_put : MethodName := ⟨RX9, "put", "(III)V"⟩
abbrev cX9_isDigit : ByteArray := prog_11_method_10_code
def yX9_isDigit : MethodName := ⟨RX9, "isDigit", "(I)Z"⟩
abbrev cX9_isLetter : ByteArray := prog_11_method_11_code
def yX9_isLetter : MethodName := ⟨RX9, "isLetter", "(I)Z"⟩
def RX10 : String := "RandomWalks"
def TX10 : u_T := fun k => match k with
  | 0 => ("RandomWalks", "errorAt", "I", false)
  | 1 => ("RandomWalks", "graph", "LRandomWalks$Graph;", true)
  | 2 => ("RandomWalks", "history", "LRandomWalks$History;", true)
  | 3 => ("RandomWalks", "reader", "LRandomWalks$Reader;", true)
  | 4 => ("RandomWalks", "costs", "LRandomWalks$Costs;", true)
  | 5 => ("RandomWalks", "partition", "LRandomWalks$Partition;", true)
  | 6 => ("RandomWalks", "equations", "LRandomWalks$Equations;", true)
  | 7 => ("RandomWalks", "answer", "LRandomWalks$Fraction;", true)
  | 8 => ("RandomWalks", "wayBack", "LRandomWalks$Fraction;", true)
  | 9 => ("RandomWalks", "gains", "[J", true)
  | 10 => ("RandomWalks", "stroll", "LRandomWalks$Stroll;", true)
  | _ => ("RandomWalks", "spread", "LRandomWalks$Spread;", true)
def tyX10 : Nat → FieldType := fun k => match k with
  | 0 => .int
  | 1 => .object "RandomWalks$Graph"
  | 2 => .object "RandomWalks$History"
  | 3 => .object "RandomWalks$Reader"
  | 4 => .object "RandomWalks$Costs"
  | 5 => .object "RandomWalks$Partition"
  | 6 => .object "RandomWalks$Equations"
  | 7 => .object "RandomWalks$Fraction"
  | 8 => .object "RandomWalks$Fraction"
  | 9 => .array .long
  | 10 => .object "RandomWalks$Stroll"
  | _ => .object "RandomWalks$Spread"
abbrev wsX100 : List Cond := u_ws RX10 TX10 12
theorem nmX10 : ∀ a, a < 12 → ∀ b, b < 12 → a ≠ b → (TX10 a).2.1 ≠ (TX10 b).2.1 := by decide +kernel
theorem tyX10_ok : ∀ k, k < 12 → parseFieldDescriptor (TX10 k).2.2.1 = some (tyX10 k) := by decide +kernel
abbrev cX10_init : ByteArray := prog_1_method_1_code
def yX10_init : MethodName := ⟨RX10, "<init>", "()V"⟩
abbrev cX10_append : ByteArray := prog_1_method_2_code
def yX10_append : MethodName := ⟨RX10, "append", "(IIIII)I"⟩
abbrev cX10_load : ByteArray := prog_1_method_3_code
def yX10_load : MethodName := ⟨RX10, "load", "(I)I"⟩
abbrev cX10_errorOffset : ByteArray := prog_1_method_4_code
def yX10_errorOffset : MethodName := ⟨RX10, "errorOffset", "()I"⟩
abbrev cX10_size : ByteArray := prog_1_method_5_code
def yX10_size : MethodName := ⟨RX10, "size", "()I"⟩
abbrev cX10_edgeCount : ByteArray := prog_1_method_6_code
def yX10_edgeCount : MethodName := ⟨RX10, "edgeCount", "()I"⟩
abbrev cX10_edge : ByteArray := prog_1_method_7_code
def yX10_edge : MethodName := ⟨RX10, "edge", "(II)I"⟩
abbrev cX10_degree : ByteArray := prog_1_method_8_code
def yX10_degree : MethodName := ⟨RX10, "degree", "(I)I"⟩
abbrev cX10_reachable : ByteArray := prog_1_method_9_code
def yX10_reachable : MethodName := ⟨RX10, "reachable", "(I)I"⟩
abbrev cX10_transition : ByteArray := prog_1_method_10_code
def yX10_transition : MethodName := ⟨RX10, "transition", "(IIZ)I"⟩
abbrev cX10_hittingTime : ByteArray := prog_1_method_11_code
def yX10_hittingTime : MethodName := ⟨RX10, "hittingTime", "(IIZ)J"⟩
abbrev cX10_hittingCost : ByteArray := prog_1_method_12_code
def yX10_hittingCost : MethodName := ⟨RX10, "hittingCost", "(IIZ)J"⟩
abbrev cX10_commuteTime : ByteArray := prog_1_method_13_code
def yX10_commuteTime : MethodName := ⟨RX10, "commuteTime", "(IIZ)J"⟩
abbrev cX10_resistance : ByteArray := prog_1_method_14_code
def yX10_resistance : MethodName := ⟨RX10, "resistance", "(IIZ)J"⟩
abbrev cX10_trees : ByteArray := prog_1_method_15_code
def yX10_trees : MethodName := ⟨RX10, "trees", "()J"⟩
abbrev cX10_absorbing : ByteArray := prog_1_method_16_code
def yX10_absorbing : MethodName := ⟨RX10, "absorbing", "()I"⟩
abbrev cX10_absorption : ByteArray := prog_1_method_17_code
def yX10_absorption : MethodName := ⟨RX10, "absorption", "(IIZ)J"⟩
abbrev cX10_absorptionTime : ByteArray := prog_1_method_18_code
def yX10_absorptionTime : MethodName := ⟨RX10, "absorptionTime", "(IZ)J"⟩
abbrev cX10_blockOf : ByteArray := prog_1_method_19_code
def yX10_blockOf : MethodName := ⟨RX10, "blockOf", "(I)I"⟩
abbrev cX10_blockCount : ByteArray := prog_1_method_20_code
def yX10_blockCount : MethodName := ⟨RX10, "blockCount", "()I"⟩
abbrev cX10_isLumpable : ByteArray := prog_1_method_21_code
def yX10_isLumpable : MethodName := ⟨RX10, "isLumpable", "()Z"⟩
abbrev cX10_parted : ByteArray := prog_1_method_22_code
def yX10_parted : MethodName := ⟨RX10, "parted", "()I"⟩
abbrev cX10_lumped : ByteArray := prog_1_method_23_code
def yX10_lumped : MethodName := ⟨RX10, "lumped", "(IIZ)I"⟩
abbrev cX10_lumpedTime : ByteArray := prog_1_method_24_code
def yX10_lumpedTime : MethodName := ⟨RX10, "lumpedTime", "(IIZ)J"⟩
abbrev cX10_after : ByteArray := prog_1_method_25_code
def yX10_after : MethodName := ⟨RX10, "after", "(III)F"⟩
abbrev cX10_walk : ByteArray := prog_1_method_26_code
def yX10_walk : MethodName := ⟨RX10, "walk", "(IIII)I"⟩
abbrev cX10_setWeight : ByteArray := prog_1_method_27_code
def yX10_setWeight : MethodName := ⟨RX10, "setWeight", "(II)I"⟩
abbrev cX10_addEdge : ByteArray := prog_1_method_28_code
def yX10_addEdge : MethodName := ⟨RX10, "addEdge", "(III)I"⟩
abbrev cX10_removeEdge : ByteArray := prog_1_method_29_code
def yX10_removeEdge : MethodName := ⟨RX10, "removeEdge", "(I)I"⟩
abbrev cX10_setAbsorbing : ByteArray := prog_1_method_30_code
def yX10_setAbsorbing : MethodName := ⟨RX10, "setAbsorbing", "(IZ)I"⟩
abbrev cX10_join : ByteArray := prog_1_method_31_code
def yX10_join : MethodName := ⟨RX10, "join", "(II)I"⟩
abbrev cX10_separate : ByteArray := prog_1_method_32_code
def yX10_separate : MethodName := ⟨RX10, "separate", "(I)I"⟩
abbrev cX10_refine : ByteArray := prog_1_method_33_code
def yX10_refine : MethodName := ⟨RX10, "refine", "()I"⟩
abbrev cX10_undo : ByteArray := prog_1_method_34_code
def yX10_undo : MethodName := ⟨RX10, "undo", "()I"⟩
abbrev cX10_checksum : ByteArray := prog_1_method_35_code
def yX10_checksum : MethodName := ⟨RX10, "checksum", "()J"⟩
abbrev cX10_requireVertex : ByteArray := prog_1_method_36_code
def yX10_requireVertex : MethodName := ⟨RX10, "requireVertex", "(I)V"⟩
abbrev cX10_requireEdge : ByteArray := prog_1_method_37_code
def yX10_requireEdge : MethodName := ⟨RX10, "requireEdge", "(I)V"⟩
abbrev cX10_requireBlock : ByteArray := prog_1_method_38_code
def yX10_requireBlock : MethodName := ⟨RX10, "requireBlock", "(I)V"⟩
abbrev cX10_requireWeight : ByteArray := prog_1_method_39_code
def yX10_requireWeight : MethodName := ⟨RX10, "requireWeight", "(I)V"⟩
abbrev cX10_requireWay : ByteArray := prog_1_method_40_code
def yX10_requireWay : MethodName := ⟨RX10, "requireWay", "(II)V"⟩
abbrev cX10_requireAbsorbingWay : ByteArray := prog_1_method_41_code
def yX10_requireAbsorbingWay : MethodName := ⟨RX10, "requireAbsorbingWay", "(I)V"⟩
abbrev cX10_requireLumpable : ByteArray := prog_1_method_42_code
def yX10_requireLumpable : MethodName := ⟨RX10, "requireLumpable", "()V"⟩
abbrev cX10_gainSteps : ByteArray := prog_1_method_43_code
def yX10_gainSteps : MethodName := ⟨RX10, "gainSteps", "()V"⟩
abbrev cX10_gainCosts : ByteArray := prog_1_method_44_code
def yX10_gainCosts : MethodName := ⟨RX10, "gainCosts", "()V"⟩
abbrev cX10_findCommuteTime : ByteArray := prog_1_method_45_code
def yX10_findCommuteTime : MethodName := ⟨RX10, "findCommuteTime", "(II)V"⟩
abbrev cX10_findAbsorption : ByteArray := prog_1_method_46_code
def yX10_findAbsorption : MethodName := ⟨RX10, "findAbsorption", "(II)V"⟩
abbrev cX10_sumOfDegrees : ByteArray := prog_1_method_47_code
def yX10_sumOfDegrees : MethodName := ⟨RX10, "sumOfDegrees", "(I)J"⟩
abbrev cX10_countTrees : ByteArray := prog_1_method_48_code
def yX10_countTrees : MethodName := ⟨RX10, "countTrees", "()J"⟩
def RX11 : String := "RandomWalksModel"
def TX11 : u_T := fun k => match k with
  | 0 => ("RandomWalksModel", "thrown", "I", false)
  | 1 => ("RandomWalksModel", "rows", "[I", true)
  | 2 => ("RandomWalksModel", "read", "[I", true)
  | 3 => ("RandomWalksModel", "now", "I", false)
  | 4 => ("RandomWalksModel", "undoable", "I", false)
  | 5 => ("RandomWalksModel", "text", "[I", true)
  | 6 => ("RandomWalksModel", "bytes", "I", false)
  | 7 => ("RandomWalksModel", "errorAt", "I", false)
  | 8 => ("RandomWalksModel", "size", "I", false)
  | 9 => ("RandomWalksModel", "next", "I", false)
  | 10 => ("RandomWalksModel", "error", "I", false)
  | 11 => ("RandomWalksModel", "place", "I", false)
  | 12 => ("RandomWalksModel", "began", "I", false)
  | 13 => ("RandomWalksModel", "nested", "I", false)
  | 14 => ("RandomWalksModel", "hasCost", "Z", false)
  | 15 => ("RandomWalksModel", "weights", "[I", true)
  | 16 => ("RandomWalksModel", "costs", "[I", true)
  | 17 => ("RandomWalksModel", "degrees", "[I", true)
  | 18 => ("RandomWalksModel", "pile", "[J", true)
  | 19 => ("RandomWalksModel", "above", "J", false)
  | 20 => ("RandomWalksModel", "below", "J", false)
  | 21 => ("RandomWalksModel", "matrix", "[J", true)
  | 22 => ("RandomWalksModel", "square", "[J", true)
  | 23 => ("RandomWalksModel", "places", "[I", true)
  | 24 => ("RandomWalksModel", "unknowns", "I", false)
  | 25 => ("RandomWalksModel", "fresh", "[I", true)
  | 26 => ("RandomWalksModel", "blocks", "I", false)
  | 27 => ("RandomWalksModel", "chances", "[F", true)
  | _ => ("RandomWalksModel", "then", "[F", true)
def tyX11 : Nat → FieldType := fun k => match k with
  | 0 => .int
  | 1 => .array .int
  | 2 => .array .int
  | 3 => .int
  | 4 => .int
  | 5 => .array .int
  | 6 => .int
  | 7 => .int
  | 8 => .int
  | 9 => .int
  | 10 => .int
  | 11 => .int
  | 12 => .int
  | 13 => .int
  | 14 => .boolean
  | 15 => .array .int
  | 16 => .array .int
  | 17 => .array .int
  | 18 => .array .long
  | 19 => .long
  | 20 => .long
  | 21 => .array .long
  | 22 => .array .long
  | 23 => .array .int
  | 24 => .int
  | 25 => .array .int
  | 26 => .int
  | 27 => .array .float
  | _ => .array .float
abbrev wsX110 : List Cond := u_ws RX11 TX11 29
theorem nmX11 : ∀ a, a < 29 → ∀ b, b < 29 → a ≠ b → (TX11 a).2.1 ≠ (TX11 b).2.1 := by decide +kernel
theorem tyX11_ok : ∀ k, k < 29 → parseFieldDescriptor (TX11 k).2.2.1 = some (tyX11 k) := by decide +kernel
abbrev cX11_init : ByteArray := prog_13_method_1_code
def yX11_init : MethodName := ⟨RX11, "<init>", "()V"⟩
abbrev cX11_thrown : ByteArray := prog_13_method_2_code
def yX11_thrown : MethodName := ⟨RX11, "thrown", "()I"⟩
abbrev cX11_isIn : ByteArray := prog_13_method_3_code
def yX11_isIn : MethodName := ⟨RX11, "isIn", "(JJJ)Z"⟩
abbrev cX11_get : ByteArray := prog_13_method_4_code
def yX11_get : MethodName := ⟨RX11, "get", "(I)I"⟩
abbrev cX11_put : ByteArray := prog_13_method_5_code
def yX11_put : MethodName := ⟨RX11, "put", "(II)V"⟩
abbrev cX11_change : ByteArray := prog_13_method_6_code
def yX11_change : MethodName := ⟨RX11, "change", "()V"⟩
abbrev cX11_right : ByteArray := prog_13_method_7_code
def yX11_right : MethodName := ⟨RX11, "right", "(ZI)Z"⟩
abbrev cX11_append : ByteArray := prog_13_method_8_code
def yX11_append : MethodName := ⟨RX11, "append", "(IIIII)I"⟩
abbrev cX11_fails : ByteArray := prog_13_method_9_code
def yX11_fails : MethodName := ⟨RX11, "fails", "(II)V"⟩
abbrev cX11_sees : ByteArray := prog_13_method_10_code
def yX11_sees : MethodName := ⟨RX11, "sees", "()I"⟩
abbrev cX11_takes : ByteArray := prog_13_method_11_code
def yX11_takes : MethodName := ⟨RX11, "takes", "(Ljava/lang/String;)Z"⟩
abbrev cX11_wants : ByteArray := prog_13_method_12_code
def yX11_wants : MethodName := ⟨RX11, "wants", "(I)V"⟩
abbrev cX11_isDigit : ByteArray := prog_13_method_13_code
def yX11_isDigit : MethodName := ⟨RX11, "isDigit", "()Z"⟩
abbrev cX11_reads : ByteArray := prog_13_method_14_code
def yX11_reads : MethodName := ⟨RX11, "reads", "(II)I"⟩
abbrev cX11_codes : ByteArray := prog_13_method_15_code
def yX11_codes : MethodName := ⟨RX11, "codes", "(II)V"⟩
abbrev cX11_sum : ByteArray := prog_13_method_16_code
def yX11_sum : MethodName := ⟨RX11, "sum", "()V"⟩
abbrev cX11_term : ByteArray := prog_13_method_17_code
def yX11_term : MethodName := ⟨RX11, "term", "()V"⟩
abbrev cX11_factor : ByteArray := prog_13_method_18_code
def yX11_factor : MethodName := ⟨RX11, "factor", "()V"⟩
abbrev cX11_readsVertex : ByteArray := prog_13_method_19_code
def yX11_readsVertex : MethodName := ⟨RX11, "readsVertex", "()I"⟩
abbrev cX11_edgeIn : ByteArray := prog_13_method_20_code
def yX11_edgeIn : MethodName := ⟨RX11, "edgeIn", "([IIIII)I"⟩
abbrev cX11_edgeLine : ByteArray := prog_13_method_21_code
def yX11_edgeLine : MethodName := ⟨RX11, "edgeLine", "()V"⟩
abbrev cX11_absorbLine : ByteArray := prog_13_method_22_code
def yX11_absorbLine : MethodName := ⟨RX11, "absorbLine", "()V"⟩
abbrev cX11_relabels : ByteArray := prog_13_method_23_code
def yX11_relabels : MethodName := ⟨RX11, "relabels", "([IIIII)V"⟩
abbrev cX11_joinLine : ByteArray := prog_13_method_24_code
def yX11_joinLine : MethodName := ⟨RX11, "joinLine", "()V"⟩
abbrev cX11_statement : ByteArray := prog_13_method_25_code
def yX11_statement : MethodName := ⟨RX11, "statement", "()V"⟩
abbrev cX11_texts : ByteArray := prog_13_method_26_code
def yX11_texts : MethodName := ⟨RX11, "texts", "()V"⟩
abbrev cX11_load : ByteArray := prog_13_method_27_code
def yX11_load : MethodName := ⟨RX11, "load", "(I)I"⟩
abbrev cX11_errorOffset : ByteArray := prog_13_method_28_code
def yX11_errorOffset : MethodName := ⟨RX11, "errorOffset", "()I"⟩
abbrev cX11_within : ByteArray := prog_13_method_29_code
def yX11_within : MethodName := ⟨RX11, "within", "(JJ)J"⟩
abbrev cX11_costOf : ByteArray := prog_13_method_30_code
def yX11_costOf : MethodName := ⟨RX11, "costOf", "(III)I"⟩
abbrev cX11_count : ByteArray := prog_13_method_31_code
def yX11_count : MethodName := ⟨RX11, "count", "()I"⟩
abbrev cX11_lays : ByteArray := prog_13_method_32_code
def yX11_lays : MethodName := ⟨RX11, "lays", "()V"⟩
abbrev cX11_has : ByteArray := prog_13_method_33_code
def yX11_has : MethodName := ⟨RX11, "has", "(II)Z"⟩
abbrev cX11_reachedFrom : ByteArray := prog_13_method_34_code
def yX11_reachedFrom : MethodName := ⟨RX11, "reachedFrom", "(I)I"⟩
abbrev cX11_divisor : ByteArray := prog_13_method_35_code
def yX11_divisor : MethodName := ⟨RX11, "divisor", "(JJ)J"⟩
abbrev cX11_fraction : ByteArray := prog_13_method_36_code
def yX11_fraction : MethodName := ⟨RX11, "fraction", "(JJ)V"⟩
abbrev cX11_told : ByteArray := prog_13_method_37_code
def yX11_told : MethodName := ⟨RX11, "told", "(Z)J"⟩
abbrev cX11_determinant : ByteArray := prog_13_method_38_code
def yX11_determinant : MethodName := ⟨RX11, "determinant", "(I)J"⟩
abbrev cX11_determinantWith : ByteArray := prog_13_method_39_code
def yX11_determinantWith : MethodName := ⟨RX11, "determinantWith", "(I)J"⟩
abbrev cX11_begins : ByteArray := prog_13_method_40_code
def yX11_begins : MethodName := ⟨RX11, "begins", "(II)V"⟩
abbrev cX11_further : ByteArray := prog_13_method_41_code
def yX11_further : MethodName := ⟨RX11, "further", "(IJ)V"⟩
abbrev cX11_solves : ByteArray := prog_13_method_42_code
def yX11_solves : MethodName := ⟨RX11, "solves", "(I)V"⟩
abbrev cX11_meanTo : ByteArray := prog_13_method_43_code
def yX11_meanTo : MethodName := ⟨RX11, "meanTo", "(IIZ)V"⟩
abbrev cX11_isVertex : ByteArray := prog_13_method_44_code
def yX11_isVertex : MethodName := ⟨RX11, "isVertex", "(I)Z"⟩
abbrev cX11_size : ByteArray := prog_13_method_45_code
def yX11_size : MethodName := ⟨RX11, "size", "()I"⟩
abbrev cX11_edgeCount : ByteArray := prog_13_method_46_code
def yX11_edgeCount : MethodName := ⟨RX11, "edgeCount", "()I"⟩
abbrev cX11_isEdge : ByteArray := prog_13_method_47_code
def yX11_isEdge : MethodName := ⟨RX11, "isEdge", "(I)Z"⟩
abbrev cX11_edge : ByteArray := prog_13_method_48_code
def yX11_edge : MethodName := ⟨RX11, "edge", "(II)I"⟩
abbrev cX11_starts : ByteArray := prog_13_method_49_code
def yX11_starts : MethodName := ⟨RX11, "starts", "(I)Z"⟩
abbrev cX11_starts2 : ByteArray := prog_13_method_50_code
def yX11_starts2 : MethodName := ⟨RX11, "starts2", "(II)Z"⟩
abbrev cX11_degree : ByteArray := prog_13_method_51_code
def yX11_degree : MethodName := ⟨RX11, "degree", "(I)I"⟩
abbrev cX11_reachable : ByteArray := prog_13_method_52_code
def yX11_reachable : MethodName := ⟨RX11, "reachable", "(I)I"⟩
abbrev cX11_step : ByteArray := prog_13_method_53_code
def yX11_step : MethodName := ⟨RX11, "step", "(II)V"⟩
abbrev cX11_transition : ByteArray := prog_13_method_54_code
def yX11_transition : MethodName := ⟨RX11, "transition", "(IIZ)I"⟩
abbrev cX11_canGo : ByteArray := prog_13_method_55_code
def yX11_canGo : MethodName := ⟨RX11, "canGo", "(II)Z"⟩
abbrev cX11_hittingTime : ByteArray := prog_13_method_56_code
def yX11_hittingTime : MethodName := ⟨RX11, "hittingTime", "(IIZ)J"⟩
abbrev cX11_hittingCost : ByteArray := prog_13_method_57_code
def yX11_hittingCost : MethodName := ⟨RX11, "hittingCost", "(IIZ)J"⟩
abbrev cX11_commutes : ByteArray := prog_13_method_58_code
def yX11_commutes : MethodName := ⟨RX11, "commutes", "(II)V"⟩
abbrev cX11_commuteTime : ByteArray := prog_13_method_59_code
def yX11_commuteTime : MethodName := ⟨RX11, "commuteTime", "(IIZ)J"⟩
abbrev cX11_resistance : ByteArray := prog_13_method_60_code
def yX11_resistance : MethodName := ⟨RX11, "resistance", "(IIZ)J"⟩
abbrev cX11_treesNow : ByteArray := prog_13_method_61_code
def yX11_treesNow : MethodName := ⟨RX11, "treesNow", "()J"⟩
abbrev cX11_trees : ByteArray := prog_13_method_62_code
def yX11_trees : MethodName := ⟨RX11, "trees", "()J"⟩
abbrev cX11_absorbing : ByteArray := prog_13_method_63_code
def yX11_absorbing : MethodName := ⟨RX11, "absorbing", "()I"⟩
abbrev cX11_absorption : ByteArray := prog_13_method_64_code
def yX11_absorption : MethodName := ⟨RX11, "absorption", "(IIZ)J"⟩
abbrev cX11_absorptionTime : ByteArray := prog_13_method_65_code
def yX11_absorptionTime : MethodName := ⟨RX11, "absorptionTime", "(IZ)J"⟩
abbrev cX11_numbers : ByteArray := prog_13_method_66_code
def yX11_numbers : MethodName := ⟨RX11, "numbers", "()V"⟩
abbrev cX11_blocksNow : ByteArray := prog_13_method_67_code
def yX11_blocksNow : MethodName := ⟨RX11, "blocksNow", "()I"⟩
abbrev cX11_toBlock : ByteArray := prog_13_method_68_code
def yX11_toBlock : MethodName := ⟨RX11, "toBlock", "(II)I"⟩
abbrev cX11_by : ByteArray := prog_13_method_69_code
def yX11_by : MethodName := ⟨RX11, "by", "(I)I"⟩
abbrev cX11_areUnlike : ByteArray := prog_13_method_70_code
def yX11_areUnlike : MethodName := ⟨RX11, "areUnlike", "(III)Z"⟩
abbrev cX11_firstParted : ByteArray := prog_13_method_71_code
def yX11_firstParted : MethodName := ⟨RX11, "firstParted", "()I"⟩
abbrev cX11_blockOf : ByteArray := prog_13_method_72_code
def yX11_blockOf : MethodName := ⟨RX11, "blockOf", "(I)I"⟩
abbrev cX11_blockCount : ByteArray := prog_13_method_73_code
def yX11_blockCount : MethodName := ⟨RX11, "blockCount", "()I"⟩
abbrev cX11_isLumpable : ByteArray := prog_13_method_74_code
def yX11_isLumpable : MethodName := ⟨RX11, "isLumpable", "()Z"⟩
abbrev cX11_parted : ByteArray := prog_13_method_75_code
def yX11_parted : MethodName := ⟨RX11, "parted", "()I"⟩
abbrev cX11_firstOf : ByteArray := prog_13_method_76_code
def yX11_firstOf : MethodName := ⟨RX11, "firstOf", "(I)I"⟩
abbrev cX11_setOf : ByteArray := prog_13_method_77_code
def yX11_setOf : MethodName := ⟨RX11, "setOf", "(I)I"⟩
abbrev cX11_areBlocks : ByteArray := prog_13_method_78_code
def yX11_areBlocks : MethodName := ⟨RX11, "areBlocks", "(II)Z"⟩
abbrev cX11_lumped : ByteArray := prog_13_method_79_code
def yX11_lumped : MethodName := ⟨RX11, "lumped", "(IIZ)I"⟩
abbrev cX11_lumpedTime : ByteArray := prog_13_method_80_code
def yX11_lumpedTime : MethodName := ⟨RX11, "lumpedTime", "(IIZ)J"⟩
abbrev cX11_after : ByteArray := prog_13_method_81_code
def yX11_after : MethodName := ⟨RX11, "after", "(III)F"⟩
abbrev cX11_walk : ByteArray := prog_13_method_82_code
def yX11_walk : MethodName := ⟨RX11, "walk", "(IIII)I"⟩
abbrev cX11_setWeight : ByteArray := prog_13_method_83_code
def yX11_setWeight : MethodName := ⟨RX11, "setWeight", "(II)I"⟩
abbrev cX11_addEdge : ByteArray := prog_13_method_84_code
def yX11_addEdge : MethodName := ⟨RX11, "addEdge", "(III)I"⟩
abbrev cX11_removeEdge : ByteArray := prog_13_method_85_code
def yX11_removeEdge : MethodName := ⟨RX11, "removeEdge", "(I)I"⟩
abbrev cX11_setAbsorbing : ByteArray := prog_13_method_86_code
def yX11_setAbsorbing : MethodName := ⟨RX11, "setAbsorbing", "(IZ)I"⟩
abbrev cX11_join : ByteArray := prog_13_method_87_code
def yX11_join : MethodName := ⟨RX11, "join", "(II)I"⟩
abbrev cX11_separate : ByteArray := prog_13_method_88_code
def yX11_separate : MethodName := ⟨RX11, "separate", "(I)I"⟩
abbrev cX11_divides : ByteArray := prog_13_method_89_code
def yX11_divides : MethodName := ⟨RX11, "divides", "()V"⟩
abbrev cX11_refine : ByteArray := prog_13_method_90_code
def yX11_refine : MethodName := ⟨RX11, "refine", "()I"⟩
abbrev cX11_undo : ByteArray := prog_13_method_91_code
def yX11_undo : MethodName := ⟨RX11, "undo", "()I"⟩
abbrev cX11_checksum : ByteArray := prog_13_method_92_code
def yX11_checksum : MethodName := ⟨RX11, "checksum", "()J"⟩
def RJx145de : String := "java/io/Serializable"
def TJx145de : u_T := fun k => match k with
  | _ => ("", "", "", false)
def tyJx145de : Nat → FieldType := fun k => match k with
  | _ => .int
abbrev wsJx145de0 : List Cond := u_ws RJx145de TJx145de 0
theorem nmJx145de : ∀ a, a < 0 → ∀ b, b < 0 → a ≠ b → (TJx145de a).2.1 ≠ (TJx145de b).2.1 := by decide +kernel
theorem tyJx145de_ok : ∀ k, k < 0 → parseFieldDescriptor (TJx145de k).2.2.1 = some (tyJx145de k) := by decide +kernel
def RJx9f9b0 : String := "java/lang/CharSequence"
def TJx9f9b0 : u_T := fun k => match k with
  | _ => ("", "", "", false)
def tyJx9f9b0 : Nat → FieldType := fun k => match k with
  | _ => .int
abbrev wsJx9f9b00 : List Cond := u_ws RJx9f9b0 TJx9f9b0 0
theorem nmJx9f9b0 : ∀ a, a < 0 → ∀ b, b < 0 → a ≠ b → (TJx9f9b0 a).2.1 ≠ (TJx9f9b0 b).2.1 := by decide +kernel
theorem tyJx9f9b0_ok : ∀ k, k < 0 → parseFieldDescriptor (TJx9f9b0 k).2.2.1 = some (tyJx9f9b0 k) := by decide +kernel
def RJx8e188 : String := "java/lang/Cloneable"
def TJx8e188 : u_T := fun k => match k with
  | _ => ("", "", "", false)
def tyJx8e188 : Nat → FieldType := fun k => match k with
  | _ => .int
abbrev wsJx8e1880 : List Cond := u_ws RJx8e188 TJx8e188 0
theorem nmJx8e188 : ∀ a, a < 0 → ∀ b, b < 0 → a ≠ b → (TJx8e188 a).2.1 ≠ (TJx8e188 b).2.1 := by decide +kernel
theorem tyJx8e188_ok : ∀ k, k < 0 → parseFieldDescriptor (TJx8e188 k).2.2.1 = some (tyJx8e188 k) := by decide +kernel
def RJxb160c : String := "java/lang/Comparable"
def TJxb160c : u_T := fun k => match k with
  | _ => ("", "", "", false)
def tyJxb160c : Nat → FieldType := fun k => match k with
  | _ => .int
abbrev wsJxb160c0 : List Cond := u_ws RJxb160c TJxb160c 0
theorem nmJxb160c : ∀ a, a < 0 → ∀ b, b < 0 → a ≠ b → (TJxb160c a).2.1 ≠ (TJxb160c b).2.1 := by decide +kernel
theorem tyJxb160c_ok : ∀ k, k < 0 → parseFieldDescriptor (TJxb160c k).2.2.1 = some (tyJxb160c k) := by decide +kernel
def RJ9 : String := "java/lang/Math"
def TJ9 : u_T := fun k => match k with
  | _ => ("", "", "", false)
def tyJ9 : Nat → FieldType := fun k => match k with
  | _ => .int
abbrev wsJ90 : List Cond := u_ws RJ9 TJ9 0
theorem nmJ9 : ∀ a, a < 0 → ∀ b, b < 0 → a ≠ b → (TJ9 a).2.1 ≠ (TJ9 b).2.1 := by decide +kernel
theorem tyJ9_ok : ∀ k, k < 0 → parseFieldDescriptor (TJ9 k).2.2.1 = some (tyJ9 k) := by decide +kernel
abbrev cJ9_abs_067f4 : ByteArray := prog_19_method_61_code
def yJ9_abs_067f4 : MethodName := ⟨RJ9, "abs", "(J)J"⟩
abbrev cJ9_max_7cf53 : ByteArray := prog_19_method_65_code
def yJ9_max_7cf53 : MethodName := ⟨RJ9, "max", "(II)I"⟩
abbrev cJ9_max_f86c9 : ByteArray := prog_19_method_66_code
def yJ9_max_f86c9 : MethodName := ⟨RJ9, "max", "(JJ)J"⟩
abbrev cJ9_min_7cf53 : ByteArray := prog_19_method_69_code
def yJ9_min_7cf53 : MethodName := ⟨RJ9, "min", "(II)I"⟩
abbrev cJ9_min_f86c9 : ByteArray := prog_19_method_70_code
def yJ9_min_f86c9 : MethodName := ⟨RJ9, "min", "(JJ)J"⟩
def RJ0 : String := "java/lang/String"
def TJ0 : u_T := fun k => match k with
  | _ => ("", "", "", false)
def tyJ0 : Nat → FieldType := fun k => match k with
  | _ => .int
abbrev wsJ00 : List Cond := u_ws RJ0 TJ0 0
theorem nmJ0 : ∀ a, a < 0 → ∀ b, b < 0 → a ≠ b → (TJ0 a).2.1 ≠ (TJ0 b).2.1 := by decide +kernel
theorem tyJ0_ok : ∀ k, k < 0 → parseFieldDescriptor (TJ0 k).2.2.1 = some (tyJ0 k) := by decide +kernel
abbrev cJ0_length_8abf5 : ByteArray := prog_21_method_54_code
def yJ0_length_8abf5 : MethodName := ⟨RJ0, "length", "()I"⟩
abbrev cJ0_charAt_5068e : ByteArray := prog_21_method_56_code
def yJ0_charAt_5068e : MethodName := ⟨RJ0, "charAt", "(I)C"⟩
abbrev cJ0_coder_7d493 : ByteArray := prog_21_method_152_code
def yJ0_coder_7d493 : MethodName := ⟨RJ0, "coder", "()B"⟩
abbrev cJ0_isLatin1_aae02 : ByteArray := prog_21_method_154_code
def yJ0_isLatin1_aae02 : MethodName := ⟨RJ0, "isLatin1", "()Z"⟩
abbrev cJ0_checkIndex_df160 : ByteArray := prog_21_method_155_code
def yJ0_checkIndex_df160 : MethodName := ⟨RJ0, "checkIndex", "(II)V"⟩
def RJ1 : String := "java/lang/StringLatin1"
def TJ1 : u_T := fun k => match k with
  | _ => ("", "", "", false)
def tyJ1 : Nat → FieldType := fun k => match k with
  | _ => .int
abbrev wsJ10 : List Cond := u_ws RJ1 TJ1 0
theorem nmJ1 : ∀ a, a < 0 → ∀ b, b < 0 → a ≠ b → (TJ1 a).2.1 ≠ (TJ1 b).2.1 := by decide +kernel
theorem tyJ1_ok : ∀ k, k < 0 → parseFieldDescriptor (TJ1 k).2.2.1 = some (tyJ1 k) := by decide +kernel
abbrev cJ1_charAt_3b067 : ByteArray := prog_22_method_2_code
def yJ1_charAt_3b067 : MethodName := ⟨RJ1, "charAt", "([BI)C"⟩
def RJ2 : String := "java/lang/StringUTF16"
def TJ2 : u_T := fun k => match k with
  | _ => ("", "", "", false)
def tyJ2 : Nat → FieldType := fun k => match k with
  | _ => .int
abbrev wsJ20 : List Cond := u_ws RJ2 TJ2 0
theorem nmJ2 : ∀ a, a < 0 → ∀ b, b < 0 → a ≠ b → (TJ2 a).2.1 ≠ (TJ2 b).2.1 := by decide +kernel
theorem tyJ2_ok : ∀ k, k < 0 → parseFieldDescriptor (TJ2 k).2.2.1 = some (tyJ2 k) := by decide +kernel
abbrev cJ2_getChar_3b067 : ByteArray := prog_23_method_5_code
def yJ2_getChar_3b067 : MethodName := ⟨RJ2, "getChar", "([BI)C"⟩
abbrev cJ2_length_9d52b : ByteArray := prog_23_method_6_code
def yJ2_length_9d52b : MethodName := ⟨RJ2, "length", "([B)I"⟩
abbrev cJ2_charAt_3b067 : ByteArray := prog_23_method_83_code
def yJ2_charAt_3b067 : MethodName := ⟨RJ2, "charAt", "([BI)C"⟩
abbrev cJ2_checkIndex_2214a : ByteArray := prog_23_method_91_code
def yJ2_checkIndex_2214a : MethodName := ⟨RJ2, "checkIndex", "(I[B)V"⟩
def RJ10 : String := "java/lang/System"
def TJ10 : u_T := fun k => match k with
  | _ => ("", "", "", false)
def tyJ10 : Nat → FieldType := fun k => match k with
  | _ => .int
abbrev wsJ100 : List Cond := u_ws RJ10 TJ10 0
theorem nmJ10 : ∀ a, a < 0 → ∀ b, b < 0 → a ≠ b → (TJ10 a).2.1 ≠ (TJ10 b).2.1 := by decide +kernel
theorem tyJ10_ok : ∀ k, k < 0 → parseFieldDescriptor (TJ10 k).2.2.1 = some (tyJ10 k) := by decide +kernel
def RJxfd54e : String := "java/lang/constant/Constable"
def TJxfd54e : u_T := fun k => match k with
  | _ => ("", "", "", false)
def tyJxfd54e : Nat → FieldType := fun k => match k with
  | _ => .int
abbrev wsJxfd54e0 : List Cond := u_ws RJxfd54e TJxfd54e 0
theorem nmJxfd54e : ∀ a, a < 0 → ∀ b, b < 0 → a ≠ b → (TJxfd54e a).2.1 ≠ (TJxfd54e b).2.1 := by decide +kernel
theorem tyJxfd54e_ok : ∀ k, k < 0 → parseFieldDescriptor (TJxfd54e k).2.2.1 = some (tyJxfd54e k) := by decide +kernel
def RJx3cf43 : String := "java/lang/constant/ConstantDesc"
def TJx3cf43 : u_T := fun k => match k with
  | _ => ("", "", "", false)
def tyJx3cf43 : Nat → FieldType := fun k => match k with
  | _ => .int
abbrev wsJx3cf430 : List Cond := u_ws RJx3cf43 TJx3cf43 0
theorem nmJx3cf43 : ∀ a, a < 0 → ∀ b, b < 0 → a ≠ b → (TJx3cf43 a).2.1 ≠ (TJx3cf43 b).2.1 := by decide +kernel
theorem tyJx3cf43_ok : ∀ k, k < 0 → parseFieldDescriptor (TJx3cf43 k).2.2.1 = some (tyJx3cf43 k) := by decide +kernel
def RJ7 : String := "java/util/Arrays"
def TJ7 : u_T := fun k => match k with
  | _ => ("", "", "", false)
def tyJ7 : Nat → FieldType := fun k => match k with
  | _ => .int
abbrev wsJ70 : List Cond := u_ws RJ7 TJ7 0
theorem nmJ7 : ∀ a, a < 0 → ∀ b, b < 0 → a ≠ b → (TJ7 a).2.1 ≠ (TJ7 b).2.1 := by decide +kernel
theorem tyJ7_ok : ∀ k, k < 0 → parseFieldDescriptor (TJ7 k).2.2.1 = some (tyJ7 k) := by decide +kernel
abbrev cJ7_fill_d0a16 : ByteArray := prog_26_method_101_code
def yJ7_fill_d0a16 : MethodName := ⟨RJ7, "fill", "([JJ)V"⟩
abbrev cJ7_fill_53178 : ByteArray := prog_26_method_103_code
def yJ7_fill_53178 : MethodName := ⟨RJ7, "fill", "([II)V"⟩
abbrev cJ7_copyOf_59c91 : ByteArray := prog_26_method_123_code
def yJ7_copyOf_59c91 : MethodName := ⟨RJ7, "copyOf", "([II)[I"⟩
def RJ3 : String := "jdk/internal/util/Preconditions"
def TJ3 : u_T := fun k => match k with
  | _ => ("", "", "", false)
def tyJ3 : Nat → FieldType := fun k => match k with
  | _ => .int
abbrev wsJ30 : List Cond := u_ws RJ3 TJ3 0
theorem nmJ3 : ∀ a, a < 0 → ∀ b, b < 0 → a ≠ b → (TJ3 a).2.1 ≠ (TJ3 b).2.1 := by decide +kernel
theorem tyJ3_ok : ∀ k, k < 0 → parseFieldDescriptor (TJ3 k).2.2.1 = some (tyJ3 k) := by decide +kernel
abbrev cJ3_checkIndex_8e157 : ByteArray := prog_27_method_11_code
def yJ3_checkIndex_8e157 : MethodName := ⟨RJ3, "checkIndex", "(IILjava/util/function/BiFunction;)I"⟩
def RL : String := "RandomWalksLaw"
abbrev cL_load : ByteArray := method_3_code
def yL_load : MethodName := ⟨RL, "load", "(LRandomWalks;I[J)I"⟩
abbrev cL_edge : ByteArray := method_4_code
def yL_edge : MethodName := ⟨RL, "edge", "(LRandomWalks;II[J)I"⟩
abbrev cL_degree : ByteArray := method_5_code
def yL_degree : MethodName := ⟨RL, "degree", "(LRandomWalks;I[J)I"⟩
abbrev cL_reachable : ByteArray := method_6_code
def yL_reachable : MethodName := ⟨RL, "reachable", "(LRandomWalks;I[J)I"⟩
abbrev cL_transition : ByteArray := method_7_code
def yL_transition : MethodName := ⟨RL, "transition", "(LRandomWalks;IIZ[J)I"⟩
abbrev cL_hittingTime : ByteArray := method_8_code
def yL_hittingTime : MethodName := ⟨RL, "hittingTime", "(LRandomWalks;IIZ[J)I"⟩
abbrev cL_hittingCost : ByteArray := method_9_code
def yL_hittingCost : MethodName := ⟨RL, "hittingCost", "(LRandomWalks;IIZ[J)I"⟩
abbrev cL_commuteTime : ByteArray := method_10_code
def yL_commuteTime : MethodName := ⟨RL, "commuteTime", "(LRandomWalks;IIZ[J)I"⟩
abbrev cL_resistance : ByteArray := method_11_code
def yL_resistance : MethodName := ⟨RL, "resistance", "(LRandomWalks;IIZ[J)I"⟩
abbrev cL_absorption : ByteArray := method_12_code
def yL_absorption : MethodName := ⟨RL, "absorption", "(LRandomWalks;IIZ[J)I"⟩
abbrev cL_absorptionTime : ByteArray := method_13_code
def yL_absorptionTime : MethodName := ⟨RL, "absorptionTime", "(LRandomWalks;IZ[J)I"⟩
abbrev cL_blockOf : ByteArray := method_14_code
def yL_blockOf : MethodName := ⟨RL, "blockOf", "(LRandomWalks;I[J)I"⟩
abbrev cL_lumped : ByteArray := method_15_code
def yL_lumped : MethodName := ⟨RL, "lumped", "(LRandomWalks;IIZ[J)I"⟩
abbrev cL_lumpedTime : ByteArray := method_16_code
def yL_lumpedTime : MethodName := ⟨RL, "lumpedTime", "(LRandomWalks;IIZ[J)I"⟩
abbrev cL_after : ByteArray := method_17_code
def yL_after : MethodName := ⟨RL, "after", "(LRandomWalks;III[D)I"⟩
abbrev cL_walk : ByteArray := method_18_code
def yL_walk : MethodName := ⟨RL, "walk", "(LRandomWalks;IIII[J)I"⟩
abbrev cL_setWeight : ByteArray := method_19_code
def yL_setWeight : MethodName := ⟨RL, "setWeight", "(LRandomWalks;II[J)I"⟩
abbrev cL_addEdge : ByteArray := method_20_code
def yL_addEdge : MethodName := ⟨RL, "addEdge", "(LRandomWalks;III[J)I"⟩
abbrev cL_removeEdge : ByteArray := method_21_code
def yL_removeEdge : MethodName := ⟨RL, "removeEdge", "(LRandomWalks;I[J)I"⟩
abbrev cL_setAbsorbing : ByteArray := method_22_code
def yL_setAbsorbing : MethodName := ⟨RL, "setAbsorbing", "(LRandomWalks;IZ[J)I"⟩
abbrev cL_join : ByteArray := method_23_code
def yL_join : MethodName := ⟨RL, "join", "(LRandomWalks;II[J)I"⟩
abbrev cL_separate : ByteArray := method_24_code
def yL_separate : MethodName := ⟨RL, "separate", "(LRandomWalks;I[J)I"⟩
abbrev cL_law : ByteArray := code
def yL_law : MethodName := ⟨RL, "law", "([I)Z"⟩
abbrev vwCl : List vw_C := [(RX0, TX0, 2), (RX1, TX1, 4), (RX2, TX2, 2), (RX3, TX3, 10), (RX4, TX4, 3), (RX5, TX5, 3), (RX6, TX6, 13), (RX7, TX7, 4), (RX8, TX8, 5), (RX9, TX9, 6), (RX10, TX10, 12), (RX11, TX11, 29)]
end
section
/-! ===== THE J-LAYER: the machine's judgement W over a heap told as a function (address ↦ cell), for methods told as a tuple ===== -/
abbrev Hp : Type := Nat → Option va_E
def hp (h : Hp) (a : Nat) (e : va_E) : Hp := fun q => if q = a then some e else h q
theorem hp_eq (h : Hp) (a : Nat) (e : va_E) : hp h a e a = some e := if_pos rfl
theorem hp_ne (h : Hp) {a q : Nat} (e : va_E) (n : q ≠ a) : hp h a e q = h q := if_neg n
/-- the run's fixed things: the classes and their slots, the array classes, the first new address, old addresses -/
abbrev Ev : Type := va_G × (Nat → ClassId) × Nat × (Nat → Nat)
def cA (v : Ev) (k : Nat) : ClassId := v.2.1 k
def z0 (v : Ev) : Nat := v.2.2.1
def oA (v : Ev) (k : Nat) : Nat := v.2.2.2 k
def Ar (v : Ev) : Nat → Prop := fun q => z0 v ≤ q
def ob (ci : Nat) (fs : List Value) : va_E := .inr (ci, fs)
def aI (v : Ev) (n : Nat) (f : Nat → Int32) : va_E := .inl (cA v 0, (n, .inl f))
def aJ (v : Ev) (n : Nat) (f : Nat → Int64) : va_E := .inl (cA v 1, (n, .inr (.inl f)))
def aF (v : Ev) (n : Nat) (f : Nat → UInt32) : va_E := .inl (cA v 2, (n, .inr (.inr (.inl f))))
def aB (v : Ev) (n : Nat) (f : Nat → Int32) : va_E := .inl (cA v 3, (n, .inl f))
def aD (v : Ev) (n : Nat) (f : Nat → UInt64) : va_E := .inl (cA v 4, (n, .inr (.inr (.inr (.inl f)))))
def aG (v : Ev) (n : Nat) (f : Nat → Option Nat) : va_E := .inl (cA v 5, (n, .inr (.inr (.inr (.inr f)))))
def tysE (v : Ev) : List (ClassId × FieldType) := [(cA v 0, .int), (cA v 1, .long), (cA v 2, .float), (cA v 3, .byte), (cA v 4, .double), (cA v 5, .object "RandomWalks$Graph")]
/-- the words that every method has: those of the tables that last -/
def big : List Cond := lw_tbl.filter goodWord
theorem big_of {w : Cond} (h : w ∈ lw_tbl) (g : goodWord w = true) : w ∈ big := List.mem_filter.mpr ⟨h, g⟩
theorem big_in {w : Cond} (h : w ∈ big) : w ∈ lw_tbl := (List.mem_filter.mp h).1
theorem big_good {w : Cond} (h : w ∈ big) : goodWord w = true := (List.mem_filter.mp h).2
theorem big_at (i : Nat) {w : Cond} (h : lw_tbl[i]? = some w) (g : goodWord w = true) : w ∈ big := big_of (List.mem_of_getElem? h) g
/-- the words that don't stand on the tables of one moment, but are kept -/
def nwk : Cond → Bool
  | .fieldLinkNest .. => true
  | .methodLinkNest .. => true
  | .castable .. => true
  | .declares _ => true
  | _ => false
theorem nwk_on {w : Cond} (h : nwk w = true) : w.onTables = true := by
  cases w <;> first | rfl | (simp [nwk] at h)
theorem nwk_warm {w : Cond} (h : nwk w = true) {s U : State} (hW : s.WarmedH U.vm) (hZ : va_Nw w s) : va_Nw w U := by
  cases w <;> first | (simp [nwk] at h; done) | exact va_Nw.warmF hW hZ | exact va_Nw.warmM hW hZ | exact va_Nw.warmC hW hZ | exact va_Nw.warmD hW hZ
/-- the texts: class, place in its pool, text -/
def stTab : List (String × Nat × String) := [("RandomWalks", 98, "the buffer does not hold as many bytes"), ("RandomWalks$Tokens", 61, "walk"), ("RandomWalks$Tokens", 67, "edge"), ("RandomWalks$Tokens", 69, "absorb"), ("RandomWalks$Tokens", 71, "join"), ("RandomWalks$Tokens", 73, "cost"), ("RandomWalks$Tokens", 75, "weight"), ("RandomWalks$Tokens", 77, "from"), ("RandomWalks$Tokens", 79, "to"), ("RandomWalks", 314, "there is no such edge"), ("RandomWalks", 133, "what is not 0 to 4"), ("RandomWalks", 311, "there is no such vertex"), ("RandomWalks", 320, "the vertex cannot be reached"), ("RandomWalks", 204, "the vertex is not absorbing"), ("RandomWalks", 322, "no absorbing vertex can be reached"), ("RandomWalks", 316, "there is no such block"), ("RandomWalks", 324, "the blocks cannot be lumped"), ("RandomWalks", 250, "the block cannot be reached"), ("RandomWalks", 256, "steps is not 0 to 100"), ("RandomWalks", 262, "steps is not 0 to 1000"), ("RandomWalks", 264, "seed is negative"), ("RandomWalks", 266, "what is not 0 to 3"), ("RandomWalks", 318, "the weight is not 1 to 9"), ("RandomWalks", 285, "the ends of an edge are different"), ("RandomWalks", 287, "there is an edge between them"), ("RandomWalksModel", 185, "walk"), ("RandomWalksModel", 164, "edge"), ("RandomWalksModel", 169, "absorb"), ("RandomWalksModel", 174, "join"), ("RandomWalksModel", 179, "cost"), ("RandomWalksModel", 140, "weight"), ("RandomWalksModel", 146, "from"), ("RandomWalksModel", 148, "to")]
/-- the texts whose signs are read -/
def stRead (i : Nat) : Bool := match stTab[i]? with
  | some q => q.1 == "RandomWalks$Tokens" || q.1 == "RandomWalksModel"
  | none => false
def stText (i : Nat) : List Nat := match stTab[i]? with
  | some q => q.2.2.toList.map Char.toNat
  | none => []
def exC : List String := ["java/lang/IndexOutOfBoundsException", "java/lang/IllegalArgumentException", "java/lang/IllegalStateException"]
/-- the old cells, which nothing changes: COST_ONE and what it holds, what a throw reads, the texts -/
def Old (v : Ev) (U : State) (H : Heap) : Prop :=
  va_Z "RandomWalks" "COST_ONE" "[I" (.ref (oA v 0)) (Ar v) U H ∧ va_T .int (oA v 0) 1 (fun _ => .int 1) (Ar v) U H ∧
  vx_Zq Bundle.tN "UNASSIGNED_STACK" Bundle.steD (Ar v) U H ∧ vx_Zq Bundle.tN "SUPPRESSED_SENTINEL" Bundle.listD (Ar v) U H ∧
  va_Z "java/lang/String" "COMPACT_STRINGS" "Z" (.int 1) (Ar v) U H ∧ va_Zq "jdk/internal/util/Preconditions" "SIOOBE_FORMATTER" "Ljava/util/function/BiFunction;" (Ar v) U H ∧
  ∀ i : Nat, stRead i = true → va_O "java/lang/String" (oA v (i + 1)) (Ar v) U H ∧ va_OF "java/lang/String" "coder" "B" (.int 0) (oA v (i + 1)) (Ar v) U H ∧ va_OF "java/lang/String" "value" "[B" (.ref (oA v (i + 101))) (oA v (i + 1)) (Ar v) U H ∧ va_T .byte (oA v (i + 101)) (stText i).length (fun j => .int (nI ((stText i).getD j 0))) (Ar v) U H
theorem Old.moved {v : Ev} {u U : State} {H : Heap} (hvm : u.vm.Alike U.vm) (h : Old v u H) : Old v U H :=
  ⟨va_Z.moved hvm h.1, va_T.moved hvm h.2.1, vx_Zq.moved hvm h.2.2.1, vx_Zq.moved hvm h.2.2.2.1, va_Z.moved hvm h.2.2.2.2.1, va_Zq.moved hvm h.2.2.2.2.2.1,
    fun i hi => ⟨va_O.moved hvm (h.2.2.2.2.2.2 i hi).1, va_OF.moved hvm (h.2.2.2.2.2.2 i hi).2.1, va_OF.moved hvm (h.2.2.2.2.2.2 i hi).2.2.1, va_T.moved hvm (h.2.2.2.2.2.2 i hi).2.2.2⟩⟩
theorem Old.kept {v : Ev} {U : State} {H H1 : Heap} (h : Old v U H) (hq : ∀ a : Nat, a < H.size → ¬ Ar v a → H1[a]? = H[a]?) : Old v U H1 :=
  ⟨va_Z.kept h.1 hq, va_T.kept h.2.1 hq, vx_Zq.kept h.2.2.1 hq, vx_Zq.kept h.2.2.2.1 hq, va_Z.kept h.2.2.2.2.1 hq, va_Zq.kept h.2.2.2.2.2.1 hq,
    fun i hi => ⟨va_O.kept (h.2.2.2.2.2.2 i hi).1 hq, va_OF.kept (h.2.2.2.2.2.2 i hi).2.1 hq, va_OF.kept (h.2.2.2.2.2.2 i hi).2.2.1 hq, va_T.kept (h.2.2.2.2.2.2 i hi).2.2.2 hq⟩⟩
/-- what the tables say beside the words that last -/
def Tb2 (v : Ev) (U : State) : Prop :=
  (∀ w ∈ lw_tbl, nwk w = true → va_Nw w U) ∧ (∀ (i : Nat) (q : String × Nat × String), stTab[i]? = some q → vk_R q.1 q.2.1 q.2.2 (oA v (i + 1)) U) ∧
  (∀ a ∈ exC, ∀ b ∈ exC, a ≠ b → va_Nc a b U) ∧ va_AO "RandomWalks$Graph" U
theorem Tb2.warm {v : Ev} {s U : State} (hW : s.WarmedH U.vm) (h : Tb2 v s) : Tb2 v U :=
  ⟨fun w hw hk => nwk_warm hk hW (h.1 w hw hk), fun i q hq => vk_R.warm hW (h.2.1 i q hq), fun a ha b hb hab => va_Nc.moved hW.alike (h.2.2.1 a ha b hb hab), va_AO.moved hW.alike h.2.2.2⟩
/-- the tables' part -/
def Bs (v : Ev) (U : State) : Prop := va_K v.1 vwCl (tysE v) U ∧ Tb2 v U ∧ Old v U U.heap
/-- the heap's part -/
def Hh (v : Ev) (h : Hp) (H : Heap) : Prop := ∀ (a : Nat) (e : va_E), h a = some e → z0 v ≤ a ∧ va_at v.1 vwCl (a, e) H
def Rp (v : Ev) (h : Hp) (top : Nat) (U : State) : Prop := Bs v U ∧ U.heap.size = top ∧ z0 v ≤ top ∧ Hh v h U.heap
theorem Hh.lt {v : Ev} {h : Hp} {H : Heap} (hh : Hh v h H) {a : Nat} {e : va_E} (ha : h a = some e) : a < H.size := (hh a e ha).2.lt
theorem Hh.set {v : Ev} {h : Hp} {H H1 : Heap} {a : Nat} {e : va_E} (hh : Hh v h H) (ha : z0 v ≤ a) (he : va_at v.1 vwCl (a, e) H1) (oq : ∀ q : Nat, q ≠ a → H1[q]? = H[q]?) : Hh v (hp h a e) H1 := by
  intro q e' hq
  by_cases hqa : q = a
  · subst hqa
    rw [hp_eq] at hq
    cases hq
    exact ⟨ha, he⟩
  · rw [hp_ne h e hqa] at hq
    exact ⟨(hh q e' hq).1, (hh q e' hq).2.kept (oq q hqa)⟩
theorem Hh.new {v : Ev} {h : Hp} {H H1 : Heap} {e : va_E} (hh : Hh v h H) (hz : z0 v ≤ H.size) (he : va_at v.1 vwCl (H.size, e) H1) (oq : ∀ q : Nat, q < H.size → H1[q]? = H[q]?) : Hh v (hp h H.size e) H1 := by
  intro q e' hq
  by_cases hqa : q = H.size
  · subst hqa
    rw [hp_eq] at hq
    cases hq
    exact ⟨hz, he⟩
  · rw [hp_ne h e hqa] at hq
    exact ⟨(hh q e' hq).1, (hh q e' hq).2.kept (oq q (hh.lt hq))⟩
/-- the locals by their places -/
def lsAt (ls : List (Option Value)) (i : Nat) : Option Value := (ls[i]?).getD none
def lvH (A : Array Slot) (n : Nat) (ls : List (Option Value)) : Prop := A.size = n ∧ lv_wf A ∧ ∀ (i : Nat) (w : Value), ls[i]? = some (some w) → A[i]? = some (.val w)
/-- the list of what is known, as the kit's rows take it -/
def lvL : Nat → List (Option Value) → List (Nat × Value)
  | _, [] => []
  | i, none :: t => lvL (i + 1) t
  | i, some w :: t => (i, w) :: lvL (i + 1) t
theorem lvL_mem : ∀ (ls : List (Option Value)) (b i : Nat) (w : Value), (i, w) ∈ lvL b ls ↔ b ≤ i ∧ ls[i - b]? = some (some w)
  | [], b, i, w => by simp [lvL]
  | none :: t, b, i, w => by
    rw [lvL, lvL_mem t (b + 1) i w]
    by_cases h : b = i
    · subst h
      constructor
      · rintro ⟨h1, h2⟩
        omega
      · rintro ⟨h1, h2⟩
        simp at h2
    · constructor
      · rintro ⟨h1, h2⟩
        refine ⟨by omega, ?_⟩
        rw [show i - b = (i - (b + 1)) + 1 by omega, List.getElem?_cons_succ]
        exact h2
      · rintro ⟨h1, h2⟩
        refine ⟨by omega, ?_⟩
        rw [show i - b = (i - (b + 1)) + 1 by omega, List.getElem?_cons_succ] at h2
        exact h2
  | some x :: t, b, i, w => by
    rw [lvL, List.mem_cons, lvL_mem t (b + 1) i w]
    by_cases h : b = i
    · subst h
      constructor
      · rintro (h1 | ⟨h1, h2⟩)
        · cases h1
          simp
        · omega
      · rintro ⟨h1, h2⟩
        simp at h2
        subst h2
        exact Or.inl rfl
    · constructor
      · rintro (h1 | ⟨h1, h2⟩)
        · cases h1
          exact absurd rfl h
        · refine ⟨by omega, ?_⟩
          rw [show i - b = (i - (b + 1)) + 1 by omega, List.getElem?_cons_succ]
          exact h2
      · rintro ⟨h1, h2⟩
        refine Or.inr ⟨by omega, ?_⟩
        rw [show i - b = (i - (b + 1)) + 1 by omega, List.getElem?_cons_succ] at h2
        exact h2
theorem lvH.has {A : Array Slot} {n : Nat} {ls : List (Option Value)} (h : lvH A n ls) : lv_has A n (lvL 0 ls) := by
  refine ⟨h.1, h.2.1, fun q hq => ?_⟩
  obtain ⟨i, w⟩ := q
  exact h.2.2 i w ((lvL_mem ls 0 i w).mp hq).2
theorem lvH.of {A : Array Slot} {n : Nat} {l : List (Nat × Value)} {ls : List (Option Value)} (h : lv_has A n l) (hs : ∀ (i : Nat) (w : Value), ls[i]? = some (some w) → (i, w) ∈ l) : lvH A n ls :=
  ⟨h.1, h.2.1, fun i w hw => h.2.2 (i, w) (hs i w hw)⟩
theorem lvH.at {A : Array Slot} {n : Nat} {ls : List (Option Value)} (h : lvH A n ls) {i : Nat} {w : Value} (hw : ls[i]? = some (some w)) : A[i]? = some (.val w) := h.2.2 i w hw
def isTwo : Option Value → Bool
  | some w => w.category == 2
  | none => false
/-- what lies ahead of a stored local, if it is a long, is gone -/
def lsCut : Nat → List (Option Value) → List (Option Value)
  | 1, x :: t => (if isTwo x then none else x) :: t
  | i + 2, x :: t => x :: lsCut (i + 1) t
  | _, l => l
def ls1 (ls : List (Option Value)) (i : Nat) (w : Value) : List (Option Value) := (lsCut i ls).set i (some w)
def ls2 (ls : List (Option Value)) (i : Nat) (w : Value) : List (Option Value) := ((lsCut i ls).set i (some w)).set (i + 1) none
theorem lsCut_at : ∀ (i : Nat) (ls : List (Option Value)) (j : Nat) (w : Value), (lsCut i ls)[j]? = some (some w) → ls[j]? = some (some w) ∧ (j + 1 = i → w.category ≠ 2)
  | 0, ls, j, w, h => by
    cases ls <;> exact ⟨h, fun q => by omega⟩
  | 1, [], j, w, h => by simp [lsCut] at h
  | 1, x :: t, j, w, h => by
    rw [lsCut] at h
    cases j with
    | zero =>
      simp only [List.getElem?_cons_zero, Option.some.injEq] at h ⊢
      split at h
      · cases h
      · next hx =>
        subst h
        refine ⟨rfl, fun _ hc => hx ?_⟩
        simp [isTwo, hc]
    | succ j => exact ⟨h, fun q => by omega⟩
  | i + 2, [], j, w, h => by simp [lsCut] at h
  | i + 2, x :: t, j, w, h => by
    rw [lsCut] at h
    cases j with
    | zero => exact ⟨h, fun q => by omega⟩
    | succ j =>
      rw [List.getElem?_cons_succ] at h
      obtain ⟨h1, h2⟩ := lsCut_at (i + 1) t j w h
      exact ⟨by rw [List.getElem?_cons_succ]; exact h1, fun q => h2 (by omega)⟩
theorem ls1_mem {ls : List (Option Value)} {i : Nat} {x : Value} (j : Nat) (w : Value) (h : (ls1 ls i x)[j]? = some (some w)) : (j, w) ∈ ((i, x) :: (lvL 0 ls).filter (fun q => !(q.1 == i) && !(q.1 + 1 == i && q.2.category == 2))) := by
  unfold ls1 at h
  by_cases hj : i = j
  · subst hj
    rw [List.getElem?_set] at h
    simp only [if_true] at h
    split at h
    · cases h
      exact List.mem_cons_self
    · cases h
  · rw [List.getElem?_set_ne hj] at h
    obtain ⟨h1, h2⟩ := lsCut_at i ls j w h
    refine List.mem_cons_of_mem _ (List.mem_filter.mpr ⟨(lvL_mem ls 0 j w).mpr ⟨Nat.zero_le _, h1⟩, ?_⟩)
    have e1 : (j == i) = false := by simp; omega
    by_cases hji : j + 1 = i
    · have e2 : (w.category == 2) = false := by simp [h2 hji]
      simp [e1, e2]
    · have e2 : (j + 1 == i) = false := by simp [hji]
      simp [e1, e2]
theorem ls2_mem {ls : List (Option Value)} {i : Nat} {x : Value} (j : Nat) (w : Value) (h : (ls2 ls i x)[j]? = some (some w)) : (j, w) ∈ ((i, x) :: (lvL 0 ls).filter (fun q => !(q.1 == i) && (!(q.1 == i + 1) && !(q.1 + 1 == i && q.2.category == 2)))) := by
  unfold ls2 at h
  by_cases hj2 : i + 1 = j
  · subst hj2
    rw [List.getElem?_set] at h
    simp only [if_true] at h
    split at h <;> cases h
  · rw [List.getElem?_set_ne hj2] at h
    by_cases hj : i = j
    · subst hj
      rw [List.getElem?_set] at h
      simp only [if_true] at h
      split at h
      · cases h
        exact List.mem_cons_self
      · cases h
    · rw [List.getElem?_set_ne hj] at h
      obtain ⟨h1, h2⟩ := lsCut_at i ls j w h
      refine List.mem_cons_of_mem _ (List.mem_filter.mpr ⟨(lvL_mem ls 0 j w).mpr ⟨Nat.zero_le _, h1⟩, ?_⟩)
      have e1 : (j == i) = false := by simp; omega
      have e3 : (j == i + 1) = false := by simp; omega
      by_cases hji : j + 1 = i
      · have e2 : (w.category == 2) = false := by simp [h2 hji]
        simp [e1, e2, e3]
      · have e2 : (j + 1 == i) = false := by simp [hji]
        simp [e1, e2, e3]
/-- a method: name, code, locals, answer, table of handlers -/
abbrev Md : Type := MethodName × ByteArray × Nat × Option FieldType × List (Nat × Nat × Nat × Nat)
def cw (M : Md) : Cond := match M.2.2.2.2 with
  | [] => .code M.1 M.2.1 M.2.2.1 M.2.2.2.1
  | hh => .codeWith M.1 M.2.1 M.2.2.1 M.2.2.2.1 hh
def rmOf (d mc ms : Nat) : Room := { frames := d, cells := mc, slots := ms, locals := 60 * d }
def Fx (v : Ev) (M : Md) (t0 : Nat) (p : Program) (l : Launch) (s : State) (m : MethodId) (args : Array Value) (meth : Method) (c : Code) : Prop :=
  p.tables.exec = Jvm.exec ∧ c.code = M.2.1 ∧ c.maxLocals = M.2.2.1 ∧ s.vm.findClass M.1.cls = some m.cls ∧ (∀ w ∈ big, w.before args s = true) ∧ meth.sig.returnType = M.2.2.2.1 ∧ meth.locks = false ∧ l.stackTraces = false ∧ Bs v s ∧ s.heap.size = t0 ∧ z0 v ≤ t0 ∧ meth.name = M.1.name ∧ c.exceptionTable.toList = tableOf M.2.2.2.2
/-- the judgement: at pc, with locals ls, stack st, heap h up to top -/
def J (v : Ev) (M : Md) (R : Room) (K : List Frame → Array Value → State → State → Prop) (t0 cells slots : Nat) (h : Hp) (top pc : Nat) (ls : List (Option Value)) (st : List Value) : Prop :=
  ∀ (p : Program) (l : Launch) (e : Env) (s : State) (m : MethodId) (args : Array Value) (below : List Frame) (meth : Method) (c : Code), Fx v M t0 p l s m args meth c →
    ∀ (H : Heap) (locs : List Loc) (A : Array Slot), H.size = top → Hh v h H → va_S (Ar v) s.heap H locs → lvH A M.2.2.1 ls →
      W p l e R s m args below meth c H locs cells slots (K below args s) (F0 m pc A st)
def Qc (v : Ev) (Qr : Option Value → Hp → Nat → Prop) : Array Value → State → Outcome → State → Prop := fun _ st oc t =>
  (∃ (r : Option Value) (h' : Hp) (top' : Nat), oc = .returned r ∧ Qr r h' top' ∧ t.heap.size = top' ∧ Hh v h' t.heap) ∧ va_F (Ar v) st t
def XC (v : Ev) (Qx : String → Hp → Nat → Prop) : String → State → State → Prop := fun E st t =>
  (∃ (h' : Hp) (top' : Nat), Qx E h' top' ∧ t.heap.size = top' ∧ Hh v h' t.heap) ∧ va_F (Ar v) st t
def KM (v : Ev) (Qr : Option Value → Hp → Nat → Prop) (Qx : String → Hp → Nat → Prop) (mc ms : Nat) : List Frame → Array Value → State → State → Prop :=
  fun below args s => vx_MQ below (Qc v Qr) (XC v Qx) args s mc ms (Ar v)
/-- a method's contract -/
def Cal (v : Ev) (M : Md) (d mc ms : Nat) (av : List Value) (h : Hp) (top : Nat) (Qr : Option Value → Hp → Nat → Prop) (Qx : String → Hp → Nat → Prop) : Prop :=
  ∀ l : Launch, l.stackTraces = false → vx_Met l M.1 (cw M :: big) (rmOf d mc ms) (va_Pc av (Rp v h top)) (Qc v Qr) (XC v Qx) mc ms (Ar v)
def noX : String → Hp → Nat → Prop := fun _ _ _ => False
/-- the locals at the entry -/
def eL (n : Nat) (av : List Value) : List (Option Value) := (av.flatMap fun w => if w.category = 2 then [some w, none] else [some w]) ++ List.replicate (n - (lg_sl av).length) none
theorem eL_mem : ∀ (av : List Value) (b i : Nat) (w : Value), (av.flatMap fun w => if w.category = 2 then [some w, none] else [some w])[i]? = some (some w) → (b + i, w) ∈ lv_args b av
  | [], b, i, w, h => by simp at h
  | x :: t, b, i, w, h => by
    rw [lv_args]
    rw [List.flatMap_cons] at h
    by_cases hx : x.category = 2
    · rw [if_pos hx] at h ⊢
      match i, h with
      | 0, h => simp at h; subst h; exact List.mem_cons_self
      | 1, h => simp at h
      | i + 2, h =>
        have h2 := eL_mem t (b + 2) i w (by simpa using h)
        rw [show b + (i + 2) = b + 2 + i by omega]
        exact List.mem_cons_of_mem _ h2
    · rw [if_neg hx] at h ⊢
      match i, h with
      | 0, h => simp at h; subst h; exact List.mem_cons_self
      | i + 1, h =>
        have h2 := eL_mem t (b + 1) i w (by simpa using h)
        rw [show b + (i + 1) = b + 1 + i by omega]
        exact List.mem_cons_of_mem _ h2
theorem eL_entry (av : List Value) {n : Nat} (hn : (lg_sl av).length ≤ n) : lvH ((lg_sl av ++ List.replicate (n - (lg_sl av).length) Slot.unset).toArray) n (eL n av) := by
  refine lvH.of (lv_entry av hn) (fun i w hw => ?_)
  unfold eL at hw
  rw [List.getElem?_append] at hw
  split at hw
  · have h1 := eL_mem av 0 i w hw
    rwa [Nat.zero_add] at h1
  · rw [List.getElem?_replicate] at hw
    split at hw <;> simp at hw
theorem Bs.warm {v : Ev} {s t : State} (hW : s.WarmedH t.vm) (h : Bs v s) (hF : va_F (Ar v) s t) : Bs v t :=
  ⟨h.1.moved hW.alike, h.2.1.warm hW, (h.2.2.moved hW.alike).kept fun a h1 h2 => hF.2 a h1 h2⟩
/-- the same tables and heap -/
theorem Bs.same {v : Ev} {s t : State} (hv : t.vm = s.vm) (hh : t.heap = s.heap) (h : Bs v s) : Bs v t :=
  h.warm (by rw [hv]; exact State.WarmedH.refl s) ⟨by rw [hh]; exact Nat.le_refl _, fun q _ _ => by rw [hh]⟩
theorem Rp.blind {v : Ev} {h : Hp} {top : Nat} {av : List Value} : FrameBlind (va_Pc av (Rp v h top)) :=
  fun a U g mk q => ⟨q.1, Bs.same (s := U) rfl rfl q.2.1, q.2.2.1, q.2.2.2.1, q.2.2.2.2⟩
/-- a contract out of the judgement at the entry -/
theorem Cal.ofJ {v : Ev} {M : Md} {d mc ms : Nat} {av : List Value} {h : Hp} {top : Nat} {Qr : Option Value → Hp → Nat → Prop} {Qx : String → Hp → Nat → Prop}
    (hpl : plainName M.1.cls = true) (hhh : M.2.2.2.2 = []) (hn : (lg_sl av).length ≤ M.2.2.1) (k : z0 v ≤ top → J v M (rmOf d mc ms) (KM v Qr Qx mc ms) top 0 0 h top 0 (eL M.2.2.1 av) []) : Cal v M d mc ms av h top Qr Qx := by
  intro l hl
  refine vx_ofW (ret := M.2.2.2.1) (cc := M.2.1) (maxL := M.2.2.1) (ws' := big) hpl (by unfold cw; rw [hhh]) ?_
  intro p e s m args below meth c s₁ B hml htb hP
  obtain ⟨rfl, hB, hz, hz0, hH⟩ := hP
  have hts : ∀ w ∈ big, w.before av.toArray s = true := fun w hw => atoms_spec (ws := cw M :: big) B.pre w (List.mem_cons_of_mem _ hw)
  have htab : c.exceptionTable.toList = tableOf M.2.2.2.2 := by
    rw [hhh]
    have : c.exceptionTable.toList = [] := by
      cases hc : c.exceptionTable.toList with
      | nil => rfl
      | cons x t => exact (htb x (by rw [hc]; exact List.mem_cons_self)).elim
    rw [this]
    rfl
  have hF : Fx v M top p l s m av.toArray meth c := ⟨B.exec, B.bytes, hml, findClass_of_methodNamed B.named, hts, B.returns, B.notSynchronized, hl, hB, hz, hz0, (name_of_methodNamed B.named B.method).1, htab⟩
  rw [lg_entry_eq]
  exact k hz0 p l e s m av.toArray below meth c hF s.heap [] _ hz hH va_S.rf (eL_entry av hn)
theorem Cal.ofJH {v : Ev} {M : Md} {d mc ms : Nat} {av : List Value} {h : Hp} {top : Nat} {Qr : Option Value → Hp → Nat → Prop} {Qx : String → Hp → Nat → Prop}
    (hpl : plainName M.1.cls = true) {x : Nat × Nat × Nat × Nat} {hh : List (Nat × Nat × Nat × Nat)} (hhh : M.2.2.2.2 = x :: hh) (hn : (lg_sl av).length ≤ M.2.2.1) (k : z0 v ≤ top → J v M (rmOf d mc ms) (KM v Qr Qx mc ms) top 0 0 h top 0 (eL M.2.2.1 av) []) : Cal v M d mc ms av h top Qr Qx := by
  intro l hl
  have hcw : cw M = Cond.codeWith M.1 M.2.1 M.2.2.1 M.2.2.2.1 M.2.2.2.2 := by unfold cw; rw [hhh]
  refine vx_ofWH (ret := M.2.2.2.1) (cc := M.2.1) (maxL := M.2.2.1) (ws' := big) (hh := M.2.2.2.2) hpl (by rw [hcw]) ?_
  intro p e s m args below meth c s₁ B hml hP
  obtain ⟨rfl, hB, hz, hz0, hH⟩ := hP
  have hts : ∀ w ∈ big, w.before av.toArray s = true := fun w hw => atoms_spec (ws := cw M :: big) B.pre w (List.mem_cons_of_mem _ hw)
  have htab : c.exceptionTable.toList = tableOf M.2.2.2.2 := vx_table (x := M.1) (y := M.1) B (by rw [← hcw]; exact atoms_spec (ws := cw M :: big) B.pre _ List.mem_cons_self)
  have hF : Fx v M top p l s m av.toArray meth c := ⟨B.exec, B.bytes, hml, findClass_of_methodNamed B.named, hts, B.returns, B.notSynchronized, hl, hB, hz, hz0, (name_of_methodNamed B.named B.method).1, htab⟩
  rw [lg_entry_eq]
  exact k hz0 p l e s m av.toArray below meth c hF s.heap [] _ hz hH va_S.rf (eL_entry av hn)
end
section
/-! ===== J rows: instructions without the heap (written by wip/whole/gen_rows.py) ===== -/
section JR
variable {v : Ev} {M : Md} {R : Room} {K : List Frame → Array Value → State → State → Prop} {t0 cells slots : Nat} {h : Hp} {top pc : Nat} {ls : List (Option Value)} {st : List Value}
theorem r_iconst {n : Int} {w : Int32} (d : decode M.2.1 pc = .ok (.iconst n, 1)) (hv : Int32.ofInt n = w) (k : J v M R K t0 cells slots h top (pc + 1) ls (.int w :: st)) : J v M R K t0 cells slots h top pc ls (st) := by
  intro p l e s m args below meth c F H locs A hz hH hS hl
  exact lv_iconst F.1 F.2.1 d hv (k p l e s m args below meth c F H locs A hz hH hS hl)
theorem r_bipush {n : Int} {w : Int32} (d : decode M.2.1 pc = .ok (.bipush n, 2)) (hv : (Int8.ofInt n).toInt32 = w) (k : J v M R K t0 cells slots h top (pc + 2) ls (.int w :: st)) : J v M R K t0 cells slots h top pc ls (st) := by
  intro p l e s m args below meth c F H locs A hz hH hS hl
  exact lv_bipush F.1 F.2.1 d hv (k p l e s m args below meth c F H locs A hz hH hS hl)
theorem r_sipush {n : Int} {w : Int32} (d : decode M.2.1 pc = .ok (.sipush n, 3)) (hv : (Int16.ofInt n).toInt32 = w) (k : J v M R K t0 cells slots h top (pc + 3) ls (.int w :: st)) : J v M R K t0 cells slots h top pc ls (st) := by
  intro p l e s m args below meth c F H locs A hz hH hS hl
  exact lv_sipush F.1 F.2.1 d hv (k p l e s m args below meth c F H locs A hz hH hS hl)
theorem r_lconst {n : Fin 2} {w : Int64} (d : decode M.2.1 pc = .ok (.lconst n, 1)) (hv : Int64.ofNat (n : Nat) = w) (k : J v M R K t0 cells slots h top (pc + 1) ls (.long w :: st)) : J v M R K t0 cells slots h top pc ls (st) := by
  intro p l e s m args below meth c F H locs A hz hH hS hl
  exact lv_lconst F.1 F.2.1 d hv (k p l e s m args below meth c F H locs A hz hH hS hl)
theorem r_fconst0  (d : decode M.2.1 pc = .ok (.fconst 0, 1))  (k : J v M R K t0 cells slots h top (pc + 1) ls (.float FP.fconst0 :: st)) : J v M R K t0 cells slots h top pc ls (st) := by
  intro p l e s m args below meth c F H locs A hz hH hS hl
  exact lv_fconst0 F.1 F.2.1 d  (k p l e s m args below meth c F H locs A hz hH hS hl)
theorem r_fconst1  (d : decode M.2.1 pc = .ok (.fconst 1, 1))  (k : J v M R K t0 cells slots h top (pc + 1) ls (.float FP.fconst1 :: st)) : J v M R K t0 cells slots h top pc ls (st) := by
  intro p l e s m args below meth c F H locs A hz hH hS hl
  exact lv_fconst1 F.1 F.2.1 d  (k p l e s m args below meth c F H locs A hz hH hS hl)
theorem r_iload_n {k0 : Fin 4} {i : Nat} {x : Int32} (d : decode M.2.1 pc = .ok (.iload_n k0, 1)) (hi : (k0 : Nat) = i) (hx : ls[i]? = some (some (.int x))) (k : J v M R K t0 cells slots h top (pc + 1) ls (.int x :: st)) : J v M R K t0 cells slots h top pc ls (st) := by
  intro p l e s m args below meth c F H locs A hz hH hS hl
  exact lv_iload_n F.1 F.2.1 d hi (hl.at hx) (k p l e s m args below meth c F H locs A hz hH hS hl)
theorem r_iload {i : Nat} {x : Int32} (d : decode M.2.1 pc = .ok (.iload i, 2)) (hx : ls[i]? = some (some (.int x))) (k : J v M R K t0 cells slots h top (pc + 2) ls (.int x :: st)) : J v M R K t0 cells slots h top pc ls (st) := by
  intro p l e s m args below meth c F H locs A hz hH hS hl
  exact lv_iload F.1 F.2.1 d (hl.at hx) (k p l e s m args below meth c F H locs A hz hH hS hl)
theorem r_istore_n {k0 : Fin 4} {i : Nat} {x : Int32} (d : decode M.2.1 pc = .ok (.istore_n k0, 1)) (hi : (k0 : Nat) = i) (hn : i < M.2.2.1) (k : J v M R K t0 cells slots h top (pc + 1) (ls1 ls i (.int x)) st) : J v M R K t0 cells slots h top pc ls (.int x :: st) := by
  intro p l e s m args below meth c F H locs A hz hH hS hl
  exact lv_istore_n F.1 F.2.1 d hi hl.has hn rfl (fun A1 h1 => k p l e s m args below meth c F H locs A1 hz hH hS (lvH.of h1 (fun j w hw => ls1_mem j w hw)))
theorem r_istore {i : Nat} {x : Int32} (d : decode M.2.1 pc = .ok (.istore i, 2)) (hn : i < M.2.2.1) (k : J v M R K t0 cells slots h top (pc + 2) (ls1 ls i (.int x)) st) : J v M R K t0 cells slots h top pc ls (.int x :: st) := by
  intro p l e s m args below meth c F H locs A hz hH hS hl
  exact lv_istore F.1 F.2.1 d hl.has hn rfl (fun A1 h1 => k p l e s m args below meth c F H locs A1 hz hH hS (lvH.of h1 (fun j w hw => ls1_mem j w hw)))
theorem r_lload_n {k0 : Fin 4} {i : Nat} {x : Int64} (d : decode M.2.1 pc = .ok (.lload_n k0, 1)) (hi : (k0 : Nat) = i) (hx : ls[i]? = some (some (.long x))) (k : J v M R K t0 cells slots h top (pc + 1) ls (.long x :: st)) : J v M R K t0 cells slots h top pc ls (st) := by
  intro p l e s m args below meth c F H locs A hz hH hS hl
  exact lv_lload_n F.1 F.2.1 d hi (hl.at hx) (k p l e s m args below meth c F H locs A hz hH hS hl)
theorem r_lload {i : Nat} {x : Int64} (d : decode M.2.1 pc = .ok (.lload i, 2)) (hx : ls[i]? = some (some (.long x))) (k : J v M R K t0 cells slots h top (pc + 2) ls (.long x :: st)) : J v M R K t0 cells slots h top pc ls (st) := by
  intro p l e s m args below meth c F H locs A hz hH hS hl
  exact lv_lload F.1 F.2.1 d (hl.at hx) (k p l e s m args below meth c F H locs A hz hH hS hl)
theorem r_lstore_n {k0 : Fin 4} {i : Nat} {x : Int64} (d : decode M.2.1 pc = .ok (.lstore_n k0, 1)) (hi : (k0 : Nat) = i) (hn : i + 1 < M.2.2.1) (k : J v M R K t0 cells slots h top (pc + 1) (ls2 ls i (.long x)) st) : J v M R K t0 cells slots h top pc ls (.long x :: st) := by
  intro p l e s m args below meth c F H locs A hz hH hS hl
  exact lv_lstore_n F.1 F.2.1 d hi hl.has hn rfl (fun A1 h1 => k p l e s m args below meth c F H locs A1 hz hH hS (lvH.of h1 (fun j w hw => ls2_mem j w hw)))
theorem r_lstore {i : Nat} {x : Int64} (d : decode M.2.1 pc = .ok (.lstore i, 2)) (hn : i + 1 < M.2.2.1) (k : J v M R K t0 cells slots h top (pc + 2) (ls2 ls i (.long x)) st) : J v M R K t0 cells slots h top pc ls (.long x :: st) := by
  intro p l e s m args below meth c F H locs A hz hH hS hl
  exact lv_lstore F.1 F.2.1 d hl.has hn rfl (fun A1 h1 => k p l e s m args below meth c F H locs A1 hz hH hS (lvH.of h1 (fun j w hw => ls2_mem j w hw)))
theorem r_aload_n {k0 : Fin 4} {i : Nat} {x : Nat} (d : decode M.2.1 pc = .ok (.aload_n k0, 1)) (hi : (k0 : Nat) = i) (hx : ls[i]? = some (some (.ref x))) (k : J v M R K t0 cells slots h top (pc + 1) ls (.ref x :: st)) : J v M R K t0 cells slots h top pc ls (st) := by
  intro p l e s m args below meth c F H locs A hz hH hS hl
  exact lv_aload_n F.1 F.2.1 d hi (hl.at hx) (k p l e s m args below meth c F H locs A hz hH hS hl)
theorem r_aload {i : Nat} {x : Nat} (d : decode M.2.1 pc = .ok (.aload i, 2)) (hx : ls[i]? = some (some (.ref x))) (k : J v M R K t0 cells slots h top (pc + 2) ls (.ref x :: st)) : J v M R K t0 cells slots h top pc ls (st) := by
  intro p l e s m args below meth c F H locs A hz hH hS hl
  exact lv_aload F.1 F.2.1 d (hl.at hx) (k p l e s m args below meth c F H locs A hz hH hS hl)
theorem r_astore_n {k0 : Fin 4} {i : Nat} {x : Nat} (d : decode M.2.1 pc = .ok (.astore_n k0, 1)) (hi : (k0 : Nat) = i) (hn : i < M.2.2.1) (k : J v M R K t0 cells slots h top (pc + 1) (ls1 ls i (.ref x)) st) : J v M R K t0 cells slots h top pc ls (.ref x :: st) := by
  intro p l e s m args below meth c F H locs A hz hH hS hl
  exact lv_astore_n F.1 F.2.1 d hi hl.has hn rfl (fun A1 h1 => k p l e s m args below meth c F H locs A1 hz hH hS (lvH.of h1 (fun j w hw => ls1_mem j w hw)))
theorem r_astore {i : Nat} {x : Nat} (d : decode M.2.1 pc = .ok (.astore i, 2)) (hn : i < M.2.2.1) (k : J v M R K t0 cells slots h top (pc + 2) (ls1 ls i (.ref x)) st) : J v M R K t0 cells slots h top pc ls (.ref x :: st) := by
  intro p l e s m args below meth c F H locs A hz hH hS hl
  exact lv_astore F.1 F.2.1 d hl.has hn rfl (fun A1 h1 => k p l e s m args below meth c F H locs A1 hz hH hS (lvH.of h1 (fun j w hw => ls1_mem j w hw)))
theorem r_fload_n {k0 : Fin 4} {i : Nat} {x : UInt32} (d : decode M.2.1 pc = .ok (.fload_n k0, 1)) (hi : (k0 : Nat) = i) (hx : ls[i]? = some (some (.float x))) (k : J v M R K t0 cells slots h top (pc + 1) ls (.float x :: st)) : J v M R K t0 cells slots h top pc ls (st) := by
  intro p l e s m args below meth c F H locs A hz hH hS hl
  exact lv_fload_n F.1 F.2.1 d hi (hl.at hx) (k p l e s m args below meth c F H locs A hz hH hS hl)
theorem r_fload {i : Nat} {x : UInt32} (d : decode M.2.1 pc = .ok (.fload i, 2)) (hx : ls[i]? = some (some (.float x))) (k : J v M R K t0 cells slots h top (pc + 2) ls (.float x :: st)) : J v M R K t0 cells slots h top pc ls (st) := by
  intro p l e s m args below meth c F H locs A hz hH hS hl
  exact lv_fload F.1 F.2.1 d (hl.at hx) (k p l e s m args below meth c F H locs A hz hH hS hl)
theorem r_fstore_n {k0 : Fin 4} {i : Nat} {x : UInt32} (d : decode M.2.1 pc = .ok (.fstore_n k0, 1)) (hi : (k0 : Nat) = i) (hn : i < M.2.2.1) (k : J v M R K t0 cells slots h top (pc + 1) (ls1 ls i (.float x)) st) : J v M R K t0 cells slots h top pc ls (.float x :: st) := by
  intro p l e s m args below meth c F H locs A hz hH hS hl
  exact lv_fstore_n F.1 F.2.1 d hi hl.has hn rfl (fun A1 h1 => k p l e s m args below meth c F H locs A1 hz hH hS (lvH.of h1 (fun j w hw => ls1_mem j w hw)))
theorem r_fstore {i : Nat} {x : UInt32} (d : decode M.2.1 pc = .ok (.fstore i, 2)) (hn : i < M.2.2.1) (k : J v M R K t0 cells slots h top (pc + 2) (ls1 ls i (.float x)) st) : J v M R K t0 cells slots h top pc ls (.float x :: st) := by
  intro p l e s m args below meth c F H locs A hz hH hS hl
  exact lv_fstore F.1 F.2.1 d hl.has hn rfl (fun A1 h1 => k p l e s m args below meth c F H locs A1 hz hH hS (lvH.of h1 (fun j w hw => ls1_mem j w hw)))
theorem r_dload_n {k0 : Fin 4} {i : Nat} {x : UInt64} (d : decode M.2.1 pc = .ok (.dload_n k0, 1)) (hi : (k0 : Nat) = i) (hx : ls[i]? = some (some (.double x))) (k : J v M R K t0 cells slots h top (pc + 1) ls (.double x :: st)) : J v M R K t0 cells slots h top pc ls (st) := by
  intro p l e s m args below meth c F H locs A hz hH hS hl
  exact lv_dload_n F.1 F.2.1 d hi (hl.at hx) (k p l e s m args below meth c F H locs A hz hH hS hl)
theorem r_dload {i : Nat} {x : UInt64} (d : decode M.2.1 pc = .ok (.dload i, 2)) (hx : ls[i]? = some (some (.double x))) (k : J v M R K t0 cells slots h top (pc + 2) ls (.double x :: st)) : J v M R K t0 cells slots h top pc ls (st) := by
  intro p l e s m args below meth c F H locs A hz hH hS hl
  exact lv_dload F.1 F.2.1 d (hl.at hx) (k p l e s m args below meth c F H locs A hz hH hS hl)
theorem r_dstore_n {k0 : Fin 4} {i : Nat} {x : UInt64} (d : decode M.2.1 pc = .ok (.dstore_n k0, 1)) (hi : (k0 : Nat) = i) (hn : i + 1 < M.2.2.1) (k : J v M R K t0 cells slots h top (pc + 1) (ls2 ls i (.double x)) st) : J v M R K t0 cells slots h top pc ls (.double x :: st) := by
  intro p l e s m args below meth c F H locs A hz hH hS hl
  exact lv_dstore_n F.1 F.2.1 d hi hl.has hn rfl (fun A1 h1 => k p l e s m args below meth c F H locs A1 hz hH hS (lvH.of h1 (fun j w hw => ls2_mem j w hw)))
theorem r_dstore {i : Nat} {x : UInt64} (d : decode M.2.1 pc = .ok (.dstore i, 2)) (hn : i + 1 < M.2.2.1) (k : J v M R K t0 cells slots h top (pc + 2) (ls2 ls i (.double x)) st) : J v M R K t0 cells slots h top pc ls (.double x :: st) := by
  intro p l e s m args below meth c F H locs A hz hH hS hl
  exact lv_dstore F.1 F.2.1 d hl.has hn rfl (fun A1 h1 => k p l e s m args below meth c F H locs A1 hz hH hS (lvH.of h1 (fun j w hw => ls2_mem j w hw)))
theorem r_iinc {i : Nat} {n : Int} {x y : Int32} (d : decode M.2.1 pc = .ok (.iinc i n, 3)) (hx : ls[i]? = some (some (.int x))) (hv : x + Int32.ofInt n = y) (hn : i < M.2.2.1) (k : J v M R K t0 cells slots h top (pc + 3) (ls1 ls i (.int y)) st) : J v M R K t0 cells slots h top pc ls st := by
  intro p l e s m args below meth c F H locs A hz hH hS hl
  obtain ⟨k9, hk9⟩ := List.getElem?_of_mem ((lvL_mem ls 0 i _).mpr ⟨Nat.zero_le _, hx⟩)
  exact lv_iinc F.1 F.2.1 d hl.has hk9 hv hn rfl (fun A1 h1 => k p l e s m args below meth c F H locs A1 hz hH hS (lvH.of h1 (fun j w hw => ls1_mem j w hw)))
theorem nI_inc (u : Nat) : nI u + Int32.ofInt 1 = nI (u + 1) := (nI_1 u)
theorem r_iincN {i u : Nat} (d : decode M.2.1 pc = .ok (.iinc i 1, 3)) (hx : ls[i]? = some (some (.int (nI u)))) (hn : i < M.2.2.1) (k : J v M R K t0 cells slots h top (pc + 3) (ls1 ls i (.int (nI (u + 1)))) st) : J v M R K t0 cells slots h top pc ls st := r_iinc d hx (nI_inc u) hn k
theorem r_iadd {x y : Int32} (d : decode M.2.1 pc = .ok (.iadd, 1))  (k : J v M R K t0 cells slots h top (pc + 1) ls (.int (x + y) :: st)) : J v M R K t0 cells slots h top pc ls (.int y :: .int x :: st) := by
  intro p l e s m args below meth c F H locs A hz hH hS hl
  exact lv_iadd F.1 F.2.1 d  (k p l e s m args below meth c F H locs A hz hH hS hl)
theorem r_isub {x y : Int32} (d : decode M.2.1 pc = .ok (.isub, 1))  (k : J v M R K t0 cells slots h top (pc + 1) ls (.int (x - y) :: st)) : J v M R K t0 cells slots h top pc ls (.int y :: .int x :: st) := by
  intro p l e s m args below meth c F H locs A hz hH hS hl
  exact lv_isub F.1 F.2.1 d  (k p l e s m args below meth c F H locs A hz hH hS hl)
theorem r_imul {x y : Int32} (d : decode M.2.1 pc = .ok (.imul, 1))  (k : J v M R K t0 cells slots h top (pc + 1) ls (.int (x * y) :: st)) : J v M R K t0 cells slots h top pc ls (.int y :: .int x :: st) := by
  intro p l e s m args below meth c F H locs A hz hH hS hl
  exact lv_imul F.1 F.2.1 d  (k p l e s m args below meth c F H locs A hz hH hS hl)
theorem r_iand {x y : Int32} (d : decode M.2.1 pc = .ok (.iand, 1))  (k : J v M R K t0 cells slots h top (pc + 1) ls (.int (x &&& y) :: st)) : J v M R K t0 cells slots h top pc ls (.int y :: .int x :: st) := by
  intro p l e s m args below meth c F H locs A hz hH hS hl
  exact lv_iand F.1 F.2.1 d  (k p l e s m args below meth c F H locs A hz hH hS hl)
theorem r_ior {x y : Int32} (d : decode M.2.1 pc = .ok (.ior, 1))  (k : J v M R K t0 cells slots h top (pc + 1) ls (.int (x ||| y) :: st)) : J v M R K t0 cells slots h top pc ls (.int y :: .int x :: st) := by
  intro p l e s m args below meth c F H locs A hz hH hS hl
  exact lv_ior F.1 F.2.1 d  (k p l e s m args below meth c F H locs A hz hH hS hl)
theorem r_ixor {x y : Int32} (d : decode M.2.1 pc = .ok (.ixor, 1))  (k : J v M R K t0 cells slots h top (pc + 1) ls (.int (x ^^^ y) :: st)) : J v M R K t0 cells slots h top pc ls (.int y :: .int x :: st) := by
  intro p l e s m args below meth c F H locs A hz hH hS hl
  exact lv_ixor F.1 F.2.1 d  (k p l e s m args below meth c F H locs A hz hH hS hl)
theorem r_ishl {x y : Int32} (d : decode M.2.1 pc = .ok (.ishl, 1))  (k : J v M R K t0 cells slots h top (pc + 1) ls (.int (x <<< (y &&& 31)) :: st)) : J v M R K t0 cells slots h top pc ls (.int y :: .int x :: st) := by
  intro p l e s m args below meth c F H locs A hz hH hS hl
  exact lv_ishl F.1 F.2.1 d  (k p l e s m args below meth c F H locs A hz hH hS hl)
theorem r_ishr {x y : Int32} (d : decode M.2.1 pc = .ok (.ishr, 1))  (k : J v M R K t0 cells slots h top (pc + 1) ls (.int (x >>> (y &&& 31)) :: st)) : J v M R K t0 cells slots h top pc ls (.int y :: .int x :: st) := by
  intro p l e s m args below meth c F H locs A hz hH hS hl
  exact lv_ishr F.1 F.2.1 d  (k p l e s m args below meth c F H locs A hz hH hS hl)
theorem r_idiv {x y : Int32} (d : decode M.2.1 pc = .ok (.idiv, 1)) (hne : ¬ y = 0) (k : J v M R K t0 cells slots h top (pc + 1) ls (.int (x / y) :: st)) : J v M R K t0 cells slots h top pc ls (.int y :: .int x :: st) := by
  intro p l e s m args below meth c F H locs A hz hH hS hl
  exact lv_idiv F.1 F.2.1 d hne (k p l e s m args below meth c F H locs A hz hH hS hl)
theorem r_irem {x y : Int32} (d : decode M.2.1 pc = .ok (.irem, 1)) (hne : ¬ y = 0) (k : J v M R K t0 cells slots h top (pc + 1) ls (.int (x - x / y * y) :: st)) : J v M R K t0 cells slots h top pc ls (.int y :: .int x :: st) := by
  intro p l e s m args below meth c F H locs A hz hH hS hl
  exact lv_irem F.1 F.2.1 d hne (k p l e s m args below meth c F H locs A hz hH hS hl)
theorem r_ladd {x y : Int64} (d : decode M.2.1 pc = .ok (.ladd, 1))  (k : J v M R K t0 cells slots h top (pc + 1) ls (.long (x + y) :: st)) : J v M R K t0 cells slots h top pc ls (.long y :: .long x :: st) := by
  intro p l e s m args below meth c F H locs A hz hH hS hl
  exact lv_ladd F.1 F.2.1 d  (k p l e s m args below meth c F H locs A hz hH hS hl)
theorem r_lsub {x y : Int64} (d : decode M.2.1 pc = .ok (.lsub, 1))  (k : J v M R K t0 cells slots h top (pc + 1) ls (.long (x - y) :: st)) : J v M R K t0 cells slots h top pc ls (.long y :: .long x :: st) := by
  intro p l e s m args below meth c F H locs A hz hH hS hl
  exact lv_lsub F.1 F.2.1 d  (k p l e s m args below meth c F H locs A hz hH hS hl)
theorem r_lmul {x y : Int64} (d : decode M.2.1 pc = .ok (.lmul, 1))  (k : J v M R K t0 cells slots h top (pc + 1) ls (.long (x * y) :: st)) : J v M R K t0 cells slots h top pc ls (.long y :: .long x :: st) := by
  intro p l e s m args below meth c F H locs A hz hH hS hl
  exact lv_lmul F.1 F.2.1 d  (k p l e s m args below meth c F H locs A hz hH hS hl)
theorem r_ldiv {x y : Int64} (d : decode M.2.1 pc = .ok (.ldiv, 1)) (hne : ¬ y = 0) (k : J v M R K t0 cells slots h top (pc + 1) ls (.long (x / y) :: st)) : J v M R K t0 cells slots h top pc ls (.long y :: .long x :: st) := by
  intro p l e s m args below meth c F H locs A hz hH hS hl
  exact lv_ldiv F.1 F.2.1 d hne (k p l e s m args below meth c F H locs A hz hH hS hl)
theorem r_lrem {x y : Int64} (d : decode M.2.1 pc = .ok (.lrem, 1)) (hne : ¬ y = 0) (k : J v M R K t0 cells slots h top (pc + 1) ls (.long (x - x / y * y) :: st)) : J v M R K t0 cells slots h top pc ls (.long y :: .long x :: st) := by
  intro p l e s m args below meth c F H locs A hz hH hS hl
  exact lv_lrem F.1 F.2.1 d hne (k p l e s m args below meth c F H locs A hz hH hS hl)
theorem r_iaddN {a b : Nat} (d : decode M.2.1 pc = .ok (.iadd, 1))  (k : J v M R K t0 cells slots h top (pc + 1) ls (.int (nI (a + b)) :: st)) : J v M R K t0 cells slots h top pc ls (.int (nI b) :: .int (nI a) :: st) := by
  intro p l e s m args below meth c F H locs A hz hH hS hl
  exact lv_iadd F.1 F.2.1 d (by rw [nI_add]; exact k p l e s m args below meth c F H locs A hz hH hS hl)
theorem r_imulN {a b : Nat} (d : decode M.2.1 pc = .ok (.imul, 1))  (k : J v M R K t0 cells slots h top (pc + 1) ls (.int (nI (a * b)) :: st)) : J v M R K t0 cells slots h top pc ls (.int (nI b) :: .int (nI a) :: st) := by
  intro p l e s m args below meth c F H locs A hz hH hS hl
  exact lv_imul F.1 F.2.1 d (by rw [pk_mul]; exact k p l e s m args below meth c F H locs A hz hH hS hl)
theorem r_ineg {x : Int32} (d : decode M.2.1 pc = .ok (.ineg, 1))  (k : J v M R K t0 cells slots h top (pc + 1) ls (.int (-x) :: st)) : J v M R K t0 cells slots h top pc ls (.int x :: st) := by
  intro p l e s m args below meth c F H locs A hz hH hS hl
  exact lv_ineg F.1 F.2.1 d  (k p l e s m args below meth c F H locs A hz hH hS hl)
theorem r_lneg {x : Int64} (d : decode M.2.1 pc = .ok (.lneg, 1))  (k : J v M R K t0 cells slots h top (pc + 1) ls (.long (-x) :: st)) : J v M R K t0 cells slots h top pc ls (.long x :: st) := by
  intro p l e s m args below meth c F H locs A hz hH hS hl
  exact lv_lneg F.1 F.2.1 d  (k p l e s m args below meth c F H locs A hz hH hS hl)
theorem r_i2l {x : Int32} (d : decode M.2.1 pc = .ok (.i2l, 1))  (k : J v M R K t0 cells slots h top (pc + 1) ls (.long x.toInt64 :: st)) : J v M R K t0 cells slots h top pc ls (.int x :: st) := by
  intro p l e s m args below meth c F H locs A hz hH hS hl
  exact lv_i2l F.1 F.2.1 d rfl (k p l e s m args below meth c F H locs A hz hH hS hl)
theorem r_l2i {x : Int64} (d : decode M.2.1 pc = .ok (.l2i, 1))  (k : J v M R K t0 cells slots h top (pc + 1) ls (.int x.toInt32 :: st)) : J v M R K t0 cells slots h top pc ls (.long x :: st) := by
  intro p l e s m args below meth c F H locs A hz hH hS hl
  exact lv_l2i F.1 F.2.1 d rfl (k p l e s m args below meth c F H locs A hz hH hS hl)
theorem r_i2b {x : Int32} (d : decode M.2.1 pc = .ok (.i2b, 1))  (k : J v M R K t0 cells slots h top (pc + 1) ls (.int x.toInt8.toInt32 :: st)) : J v M R K t0 cells slots h top pc ls (.int x :: st) := by
  intro p l e s m args below meth c F H locs A hz hH hS hl
  exact lv_i2b F.1 F.2.1 d rfl (k p l e s m args below meth c F H locs A hz hH hS hl)
theorem r_i2c {x : Int32} (d : decode M.2.1 pc = .ok (.i2c, 1))  (k : J v M R K t0 cells slots h top (pc + 1) ls (.int (x.toUInt32 % 65536).toInt32 :: st)) : J v M R K t0 cells slots h top pc ls (.int x :: st) := by
  intro p l e s m args below meth c F H locs A hz hH hS hl
  exact lv_i2c F.1 F.2.1 d rfl (k p l e s m args below meth c F H locs A hz hH hS hl)
theorem r_i2f {x : Int32} (d : decode M.2.1 pc = .ok (.i2f, 1))  (k : J v M R K t0 cells slots h top (pc + 1) ls (.float (FP.i2f x) :: st)) : J v M R K t0 cells slots h top pc ls (.int x :: st) := by
  intro p l e s m args below meth c F H locs A hz hH hS hl
  exact lv_i2f F.1 F.2.1 d  (k p l e s m args below meth c F H locs A hz hH hS hl)
theorem r_l2f {x : Int64} (d : decode M.2.1 pc = .ok (.l2f, 1))  (k : J v M R K t0 cells slots h top (pc + 1) ls (.float (FP.l2f x) :: st)) : J v M R K t0 cells slots h top pc ls (.long x :: st) := by
  intro p l e s m args below meth c F H locs A hz hH hS hl
  exact lv_l2f F.1 F.2.1 d  (k p l e s m args below meth c F H locs A hz hH hS hl)
theorem r_fadd {x y : UInt32} (d : decode M.2.1 pc = .ok (.fadd, 1)) (hne : vf_n32 (FP.fadd x y)) (k : J v M R K t0 cells slots h top (pc + 1) ls (.float (FP.fadd x y) :: st)) : J v M R K t0 cells slots h top pc ls (.float y :: .float x :: st) := by
  intro p l e s m args below meth c F H locs A hz hH hS hl
  exact lv_fadd F.1 F.2.1 d hne (k p l e s m args below meth c F H locs A hz hH hS hl)
theorem r_fmul {x y : UInt32} (d : decode M.2.1 pc = .ok (.fmul, 1)) (hne : vf_n32 (FP.fmul x y)) (k : J v M R K t0 cells slots h top (pc + 1) ls (.float (FP.fmul x y) :: st)) : J v M R K t0 cells slots h top pc ls (.float y :: .float x :: st) := by
  intro p l e s m args below meth c F H locs A hz hH hS hl
  exact lv_fmul F.1 F.2.1 d hne (k p l e s m args below meth c F H locs A hz hH hS hl)
theorem r_fdiv {x y : UInt32} (d : decode M.2.1 pc = .ok (.fdiv, 1)) (hne : vf_n32 (FP.fdiv x y)) (k : J v M R K t0 cells slots h top (pc + 1) ls (.float (FP.fdiv x y) :: st)) : J v M R K t0 cells slots h top pc ls (.float y :: .float x :: st) := by
  intro p l e s m args below meth c F H locs A hz hH hS hl
  exact lv_fdiv F.1 F.2.1 d hne (k p l e s m args below meth c F H locs A hz hH hS hl)
theorem r_f2d {x : UInt32} (d : decode M.2.1 pc = .ok (.f2d, 1)) (hne : vf_n64 (FP.f2d x)) (k : J v M R K t0 cells slots h top (pc + 1) ls (.double (FP.f2d x) :: st)) : J v M R K t0 cells slots h top pc ls (.float x :: st) := by
  intro p l e s m args below meth c F H locs A hz hH hS hl
  exact lv_f2d F.1 F.2.1 d hne (k p l e s m args below meth c F H locs A hz hH hS hl)
theorem r_lcmp {x y : Int64} (d : decode M.2.1 pc = .ok (.lcmp, 1))  (k : J v M R K t0 cells slots h top (pc + 1) ls (.int (lg_cmp x y) :: st)) : J v M R K t0 cells slots h top pc ls (.long y :: .long x :: st) := by
  intro p l e s m args below meth c F H locs A hz hH hS hl
  exact W.lcmp F.1 F.2.1 d  (k p l e s m args below meth c F H locs A hz hH hS hl)
theorem r_fcmp {x y : UInt32} {op : CmpOp} (d : decode M.2.1 pc = .ok (.fcmp op, 1))  (k : J v M R K t0 cells slots h top (pc + 1) ls (.int (Op.cmpValue (FP.fcmp x y) op) :: st)) : J v M R K t0 cells slots h top pc ls (.float y :: .float x :: st) := by
  intro p l e s m args below meth c F H locs A hz hH hS hl
  exact lv_fcmp F.1 F.2.1 d  (k p l e s m args below meth c F H locs A hz hH hS hl)
theorem r_dcmp {x y : UInt64} {op : CmpOp} (d : decode M.2.1 pc = .ok (.dcmp op, 1))  (k : J v M R K t0 cells slots h top (pc + 1) ls (.int (Op.cmpValue (FP.dcmp x y) op) :: st)) : J v M R K t0 cells slots h top pc ls (.double y :: .double x :: st) := by
  intro p l e s m args below meth c F H locs A hz hH hS hl
  exact lv_dcmp F.1 F.2.1 d  (k p l e s m args below meth c F H locs A hz hH hS hl)
theorem r_dup {x : Value} (d : decode M.2.1 pc = .ok (.dup, 1)) (hx : x.category = 1) (k : J v M R K t0 cells slots h top (pc + 1) ls (x :: x :: st)) : J v M R K t0 cells slots h top pc ls (x :: st) := by
  intro p l e s m args below meth c F H locs A hz hH hS hl
  exact lv_dup F.1 F.2.1 d hx (k p l e s m args below meth c F H locs A hz hH hS hl)
theorem r_pop {x : Value} (d : decode M.2.1 pc = .ok (.pop, 1)) (hx : x.category = 1) (k : J v M R K t0 cells slots h top (pc + 1) ls (st)) : J v M R K t0 cells slots h top pc ls (x :: st) := by
  intro p l e s m args below meth c F H locs A hz hH hS hl
  exact lv_pop F.1 F.2.1 d hx (k p l e s m args below meth c F H locs A hz hH hS hl)
theorem r_dup2_11 {x y : Value} (d : decode M.2.1 pc = .ok (.dup2, 1)) (hx : x.category = 1) (hy : y.category = 1) (k : J v M R K t0 cells slots h top (pc + 1) ls (x :: y :: x :: y :: st)) : J v M R K t0 cells slots h top pc ls (x :: y :: st) := by
  intro p l e s m args below meth c F H locs A hz hH hS hl
  exact lv_dup2_11 F.1 F.2.1 d hx hy (k p l e s m args below meth c F H locs A hz hH hS hl)
theorem r_dup2_2 {x : Value} (d : decode M.2.1 pc = .ok (.dup2, 1)) (hx : x.category = 2) (k : J v M R K t0 cells slots h top (pc + 1) ls (x :: x :: st)) : J v M R K t0 cells slots h top pc ls (x :: st) := by
  intro p l e s m args below meth c F H locs A hz hH hS hl
  exact lv_dup2_2 F.1 F.2.1 d hx (k p l e s m args below meth c F H locs A hz hH hS hl)
theorem r_dup_x1 {x y : Value} (d : decode M.2.1 pc = .ok (.dup_x1, 1)) (hx : x.category = 1) (hy : y.category = 1) (k : J v M R K t0 cells slots h top (pc + 1) ls (x :: y :: x :: st)) : J v M R K t0 cells slots h top pc ls (x :: y :: st) := by
  intro p l e s m args below meth c F H locs A hz hH hS hl
  exact lv_dup_x1 F.1 F.2.1 d hx hy (k p l e s m args below meth c F H locs A hz hH hS hl)
theorem r_if_eq {x : Int32} {off : Int} (tgt : Nat) (d : decode M.2.1 pc = .ok (.ifCond .eq off, 3)) (ht : (pc : Int) + off = (tgt : Int)) (kt : x = 0 → J v M R K t0 cells slots h top tgt ls st) (kf : ¬ x = 0 → J v M R K t0 cells slots h top (pc + 3) ls st) : J v M R K t0 cells slots h top pc ls (.int x :: st) := by
  intro p l e s m args below meth c F H locs A hz hH hS hl
  exact lv_if_eq F.1 F.2.1 d ht (fun q => kt q p l e s m args below meth c F H locs A hz hH hS hl) (fun q => kf q p l e s m args below meth c F H locs A hz hH hS hl)
theorem r_if_ne {x : Int32} {off : Int} (tgt : Nat) (d : decode M.2.1 pc = .ok (.ifCond .ne off, 3)) (ht : (pc : Int) + off = (tgt : Int)) (kt : ¬ x = 0 → J v M R K t0 cells slots h top tgt ls st) (kf : x = 0 → J v M R K t0 cells slots h top (pc + 3) ls st) : J v M R K t0 cells slots h top pc ls (.int x :: st) := by
  intro p l e s m args below meth c F H locs A hz hH hS hl
  exact lv_if_ne F.1 F.2.1 d ht (fun q => kt q p l e s m args below meth c F H locs A hz hH hS hl) (fun q => kf q p l e s m args below meth c F H locs A hz hH hS hl)
theorem r_if_lt {x : Int32} {off : Int} (tgt : Nat) (d : decode M.2.1 pc = .ok (.ifCond .lt off, 3)) (ht : (pc : Int) + off = (tgt : Int)) (kt : x < 0 → J v M R K t0 cells slots h top tgt ls st) (kf : ¬ x < 0 → J v M R K t0 cells slots h top (pc + 3) ls st) : J v M R K t0 cells slots h top pc ls (.int x :: st) := by
  intro p l e s m args below meth c F H locs A hz hH hS hl
  exact lv_if_lt F.1 F.2.1 d ht (fun q => kt q p l e s m args below meth c F H locs A hz hH hS hl) (fun q => kf q p l e s m args below meth c F H locs A hz hH hS hl)
theorem r_if_ge {x : Int32} {off : Int} (tgt : Nat) (d : decode M.2.1 pc = .ok (.ifCond .ge off, 3)) (ht : (pc : Int) + off = (tgt : Int)) (kt : 0 ≤ x → J v M R K t0 cells slots h top tgt ls st) (kf : ¬ 0 ≤ x → J v M R K t0 cells slots h top (pc + 3) ls st) : J v M R K t0 cells slots h top pc ls (.int x :: st) := by
  intro p l e s m args below meth c F H locs A hz hH hS hl
  exact lv_if_ge F.1 F.2.1 d ht (fun q => kt q p l e s m args below meth c F H locs A hz hH hS hl) (fun q => kf q p l e s m args below meth c F H locs A hz hH hS hl)
theorem r_if_gt {x : Int32} {off : Int} (tgt : Nat) (d : decode M.2.1 pc = .ok (.ifCond .gt off, 3)) (ht : (pc : Int) + off = (tgt : Int)) (kt : 0 < x → J v M R K t0 cells slots h top tgt ls st) (kf : ¬ 0 < x → J v M R K t0 cells slots h top (pc + 3) ls st) : J v M R K t0 cells slots h top pc ls (.int x :: st) := by
  intro p l e s m args below meth c F H locs A hz hH hS hl
  exact lv_if_gt F.1 F.2.1 d ht (fun q => kt q p l e s m args below meth c F H locs A hz hH hS hl) (fun q => kf q p l e s m args below meth c F H locs A hz hH hS hl)
theorem r_if_le {x : Int32} {off : Int} (tgt : Nat) (d : decode M.2.1 pc = .ok (.ifCond .le off, 3)) (ht : (pc : Int) + off = (tgt : Int)) (kt : x ≤ 0 → J v M R K t0 cells slots h top tgt ls st) (kf : ¬ x ≤ 0 → J v M R K t0 cells slots h top (pc + 3) ls st) : J v M R K t0 cells slots h top pc ls (.int x :: st) := by
  intro p l e s m args below meth c F H locs A hz hH hS hl
  exact lv_if_le F.1 F.2.1 d ht (fun q => kt q p l e s m args below meth c F H locs A hz hH hS hl) (fun q => kf q p l e s m args below meth c F H locs A hz hH hS hl)
theorem r_icmp_eq {x y : Int32} {off : Int} (tgt : Nat) (d : decode M.2.1 pc = .ok (.if_icmp .eq off, 3)) (ht : (pc : Int) + off = (tgt : Int)) (kt : x = y → J v M R K t0 cells slots h top tgt ls st) (kf : ¬ x = y → J v M R K t0 cells slots h top (pc + 3) ls st) : J v M R K t0 cells slots h top pc ls (.int y :: .int x :: st) := by
  intro p l e s m args below meth c F H locs A hz hH hS hl
  exact lv_icmp_eq F.1 F.2.1 d ht (fun q => kt q p l e s m args below meth c F H locs A hz hH hS hl) (fun q => kf q p l e s m args below meth c F H locs A hz hH hS hl)
theorem r_icmp_ne {x y : Int32} {off : Int} (tgt : Nat) (d : decode M.2.1 pc = .ok (.if_icmp .ne off, 3)) (ht : (pc : Int) + off = (tgt : Int)) (kt : ¬ x = y → J v M R K t0 cells slots h top tgt ls st) (kf : x = y → J v M R K t0 cells slots h top (pc + 3) ls st) : J v M R K t0 cells slots h top pc ls (.int y :: .int x :: st) := by
  intro p l e s m args below meth c F H locs A hz hH hS hl
  exact lv_icmp_ne F.1 F.2.1 d ht (fun q => kt q p l e s m args below meth c F H locs A hz hH hS hl) (fun q => kf q p l e s m args below meth c F H locs A hz hH hS hl)
theorem r_icmp_lt {x y : Int32} {off : Int} (tgt : Nat) (d : decode M.2.1 pc = .ok (.if_icmp .lt off, 3)) (ht : (pc : Int) + off = (tgt : Int)) (kt : x < y → J v M R K t0 cells slots h top tgt ls st) (kf : ¬ x < y → J v M R K t0 cells slots h top (pc + 3) ls st) : J v M R K t0 cells slots h top pc ls (.int y :: .int x :: st) := by
  intro p l e s m args below meth c F H locs A hz hH hS hl
  exact lv_icmp_lt F.1 F.2.1 d ht (fun q => kt q p l e s m args below meth c F H locs A hz hH hS hl) (fun q => kf q p l e s m args below meth c F H locs A hz hH hS hl)
theorem r_icmp_ge {x y : Int32} {off : Int} (tgt : Nat) (d : decode M.2.1 pc = .ok (.if_icmp .ge off, 3)) (ht : (pc : Int) + off = (tgt : Int)) (kt : y ≤ x → J v M R K t0 cells slots h top tgt ls st) (kf : ¬ y ≤ x → J v M R K t0 cells slots h top (pc + 3) ls st) : J v M R K t0 cells slots h top pc ls (.int y :: .int x :: st) := by
  intro p l e s m args below meth c F H locs A hz hH hS hl
  exact lv_icmp_ge F.1 F.2.1 d ht (fun q => kt q p l e s m args below meth c F H locs A hz hH hS hl) (fun q => kf q p l e s m args below meth c F H locs A hz hH hS hl)
theorem r_icmp_gt {x y : Int32} {off : Int} (tgt : Nat) (d : decode M.2.1 pc = .ok (.if_icmp .gt off, 3)) (ht : (pc : Int) + off = (tgt : Int)) (kt : y < x → J v M R K t0 cells slots h top tgt ls st) (kf : ¬ y < x → J v M R K t0 cells slots h top (pc + 3) ls st) : J v M R K t0 cells slots h top pc ls (.int y :: .int x :: st) := by
  intro p l e s m args below meth c F H locs A hz hH hS hl
  exact lv_icmp_gt F.1 F.2.1 d ht (fun q => kt q p l e s m args below meth c F H locs A hz hH hS hl) (fun q => kf q p l e s m args below meth c F H locs A hz hH hS hl)
theorem r_icmp_le {x y : Int32} {off : Int} (tgt : Nat) (d : decode M.2.1 pc = .ok (.if_icmp .le off, 3)) (ht : (pc : Int) + off = (tgt : Int)) (kt : x ≤ y → J v M R K t0 cells slots h top tgt ls st) (kf : ¬ x ≤ y → J v M R K t0 cells slots h top (pc + 3) ls st) : J v M R K t0 cells slots h top pc ls (.int y :: .int x :: st) := by
  intro p l e s m args below meth c F H locs A hz hH hS hl
  exact lv_icmp_le F.1 F.2.1 d ht (fun q => kt q p l e s m args below meth c F H locs A hz hH hS hl) (fun q => kf q p l e s m args below meth c F H locs A hz hH hS hl)
theorem nI_lt_iff {a b : Nat} (ha : a < 2147483648) (hb : b < 2147483648) : nI a < nI b ↔ a < b := nI_ltI ha hb
theorem nI_le_iff {a b : Nat} (ha : a < 2147483648) (hb : b < 2147483648) : nI a ≤ nI b ↔ a ≤ b := nI_leI ha hb
theorem nI_eq_iff {a b : Nat} (ha : a < 2147483648) (hb : b < 2147483648) : nI a = nI b ↔ a = b := nI_eq ha hb
theorem r_icmp_eqN {a b : Nat} {off : Int} (tgt : Nat) (d : decode M.2.1 pc = .ok (.if_icmp .eq off, 3)) (ht : (pc : Int) + off = (tgt : Int)) (ha : a < 2147483648) (hb : b < 2147483648) (kt : a = b → J v M R K t0 cells slots h top tgt ls st) (kf : a ≠ b → J v M R K t0 cells slots h top (pc + 3) ls st) : J v M R K t0 cells slots h top pc ls (.int (nI b) :: .int (nI a) :: st) := by
  exact r_icmp_eq tgt d ht (fun q => kt ((nI_eq_iff ha hb).mp q)) (fun q => kf (fun z => q ((nI_eq_iff ha hb).mpr z)))
theorem r_icmp_neN {a b : Nat} {off : Int} (tgt : Nat) (d : decode M.2.1 pc = .ok (.if_icmp .ne off, 3)) (ht : (pc : Int) + off = (tgt : Int)) (ha : a < 2147483648) (hb : b < 2147483648) (kt : a ≠ b → J v M R K t0 cells slots h top tgt ls st) (kf : a = b → J v M R K t0 cells slots h top (pc + 3) ls st) : J v M R K t0 cells slots h top pc ls (.int (nI b) :: .int (nI a) :: st) := by
  exact r_icmp_ne tgt d ht (fun q => kt (fun z => q ((nI_eq_iff ha hb).mpr z))) (fun q => kf ((nI_eq_iff ha hb).mp (by simpa using q)))
theorem r_icmp_ltN {a b : Nat} {off : Int} (tgt : Nat) (d : decode M.2.1 pc = .ok (.if_icmp .lt off, 3)) (ht : (pc : Int) + off = (tgt : Int)) (ha : a < 2147483648) (hb : b < 2147483648) (kt : a < b → J v M R K t0 cells slots h top tgt ls st) (kf : b ≤ a → J v M R K t0 cells slots h top (pc + 3) ls st) : J v M R K t0 cells slots h top pc ls (.int (nI b) :: .int (nI a) :: st) := by
  exact r_icmp_lt tgt d ht (fun q => kt ((nI_lt_iff ha hb).mp q)) (fun q => kf (Nat.not_lt.mp (fun z => q ((nI_lt_iff ha hb).mpr z))))
theorem r_icmp_geN {a b : Nat} {off : Int} (tgt : Nat) (d : decode M.2.1 pc = .ok (.if_icmp .ge off, 3)) (ht : (pc : Int) + off = (tgt : Int)) (ha : a < 2147483648) (hb : b < 2147483648) (kt : b ≤ a → J v M R K t0 cells slots h top tgt ls st) (kf : a < b → J v M R K t0 cells slots h top (pc + 3) ls st) : J v M R K t0 cells slots h top pc ls (.int (nI b) :: .int (nI a) :: st) := by
  exact r_icmp_ge tgt d ht (fun q => kt ((nI_le_iff hb ha).mp q)) (fun q => kf (Nat.not_le.mp (fun z => q ((nI_le_iff hb ha).mpr z))))
theorem r_icmp_gtN {a b : Nat} {off : Int} (tgt : Nat) (d : decode M.2.1 pc = .ok (.if_icmp .gt off, 3)) (ht : (pc : Int) + off = (tgt : Int)) (ha : a < 2147483648) (hb : b < 2147483648) (kt : b < a → J v M R K t0 cells slots h top tgt ls st) (kf : a ≤ b → J v M R K t0 cells slots h top (pc + 3) ls st) : J v M R K t0 cells slots h top pc ls (.int (nI b) :: .int (nI a) :: st) := by
  exact r_icmp_gt tgt d ht (fun q => kt ((nI_lt_iff hb ha).mp q)) (fun q => kf (Nat.not_lt.mp (fun z => q ((nI_lt_iff hb ha).mpr z))))
theorem r_icmp_leN {a b : Nat} {off : Int} (tgt : Nat) (d : decode M.2.1 pc = .ok (.if_icmp .le off, 3)) (ht : (pc : Int) + off = (tgt : Int)) (ha : a < 2147483648) (hb : b < 2147483648) (kt : a ≤ b → J v M R K t0 cells slots h top tgt ls st) (kf : b < a → J v M R K t0 cells slots h top (pc + 3) ls st) : J v M R K t0 cells slots h top pc ls (.int (nI b) :: .int (nI a) :: st) := by
  exact r_icmp_le tgt d ht (fun q => kt ((nI_le_iff ha hb).mp q)) (fun q => kf (Nat.not_le.mp (fun z => q ((nI_le_iff ha hb).mpr z))))
theorem r_goto {off : Int} (tgt : Nat) (d : decode M.2.1 pc = .ok (.goto off, 3)) (ht : (pc : Int) + off = (tgt : Int)) (k : J v M R K t0 cells slots h top tgt ls st) : J v M R K t0 cells slots h top pc ls st := by
  intro p l e s m args below meth c F H locs A hz hH hS hl
  exact lv_goto F.1 F.2.1 d ht (k p l e s m args below meth c F H locs A hz hH hS hl)
theorem r_swOut {dflt lo hi : Int} {offs : Array Int} {len : Nat} {x : Int32} (tgt : Nat) (d : decode M.2.1 pc = .ok (.tableswitch dflt lo hi offs, len)) (hx : x.toInt < lo ∨ hi < x.toInt) (ht : (pc : Int) + dflt = (tgt : Int)) (k : J v M R K t0 cells slots h top tgt ls st) : J v M R K t0 cells slots h top pc ls (.int x :: st) := by
  intro p l e s m args below meth c F H locs A hz hH hS hl
  exact lv_tableOut F.1 F.2.1 d hx ht (k p l e s m args below meth c F H locs A hz hH hS hl)
theorem r_swIn {dflt lo hi : Int} {offs : Array Int} {len : Nat} {x : Int32} {off : Int} (tgt : Nat) (d : decode M.2.1 pc = .ok (.tableswitch dflt lo hi offs, len)) (h1 : ¬ x.toInt < lo) (h2 : ¬ hi < x.toInt) (ho : offs[(x.toInt - lo).toNat]? = some off) (ht : (pc : Int) + off = (tgt : Int)) (k : J v M R K t0 cells slots h top tgt ls st) : J v M R K t0 cells slots h top pc ls (.int x :: st) := by
  intro p l e s m args below meth c F H locs A hz hH hS hl
  exact lv_tableIn F.1 F.2.1 d h1 h2 ho ht (k p l e s m args below meth c F H locs A hz hH hS hl)
theorem r_ldcI {idx : Nat} {x : Int32} (d : decode M.2.1 pc = .ok (.ldc idx, 2)) (hw : Cond.constant M.1.cls idx x ∈ big) (k : J v M R K t0 cells slots h top (pc + 2) ls (.int x :: st)) : J v M R K t0 cells slots h top pc ls st := by
  intro p l e s m args below meth c F H locs A hz hH hS hl
  exact lv_ldc F.1 F.2.1 F.2.2.2.1 (F.2.2.2.2.1 _ hw) d (k p l e s m args below meth c F H locs A hz hH hS hl)
theorem r_ldcwI {idx : Nat} {x : Int32} (d : decode M.2.1 pc = .ok (.ldc_w idx, 3)) (hw : Cond.constant M.1.cls idx x ∈ big) (k : J v M R K t0 cells slots h top (pc + 3) ls (.int x :: st)) : J v M R K t0 cells slots h top pc ls st := by
  intro p l e s m args below meth c F H locs A hz hH hS hl
  exact lv_ldcw F.1 F.2.1 F.2.2.2.1 (F.2.2.2.2.1 _ hw) d (k p l e s m args below meth c F H locs A hz hH hS hl)
theorem r_ldc2 {idx : Nat} {x : Int64} (d : decode M.2.1 pc = .ok (.ldc2_w idx, 3)) (hw : Cond.constantLong M.1.cls idx x ∈ big) (k : J v M R K t0 cells slots h top (pc + 3) ls (.long x :: st)) : J v M R K t0 cells slots h top pc ls st := by
  intro p l e s m args below meth c F H locs A hz hH hS hl
  exact lv_ldc2 F.1 F.2.1 F.2.2.2.1 (F.2.2.2.2.1 _ hw) d (k p l e s m args below meth c F H locs A hz hH hS hl)
/-- fewer locals known -/
theorem r_sub (ls2 : List (Option Value)) (hs : ∀ (i : Nat) (w : Value), ls2[i]? = some (some w) → ls[i]? = some (some w)) (k : J v M R K t0 cells slots h top pc ls2 st) : J v M R K t0 cells slots h top pc ls st := by
  intro p l e s m args below meth c F H locs A hz hH hS hl
  exact k p l e s m args below meth c F H locs A hz hH hS ⟨hl.1, hl.2.1, fun i w hw => hl.2.2 i w (hs i w hw)⟩
theorem r_lt {a : Nat} {e : va_E} (ha : h a = some e) (k : z0 v ≤ a → a < top → J v M R K t0 cells slots h top pc ls st) : J v M R K t0 cells slots h top pc ls st := by
  intro p l e9 s m args below meth c F H locs A hz hH hS hl
  exact k (hH a e ha).1 (by rw [← hz]; exact hH.lt ha) p l e9 s m args below meth c F H locs A hz hH hS hl
theorem r_widen {c2 s2 : Nat} (h1 : cells ≤ c2) (h2 : slots ≤ s2) (k : J v M R K t0 c2 s2 h top pc ls st) : J v M R K t0 cells slots h top pc ls st := by
  intro p l e s m args below meth c F H locs A hz hH hS hl
  exact W.widen h1 h2 (k p l e s m args below meth c F H locs A hz hH hS hl)
/-- a picture of the heap that says less -/
theorem r_less {h2 : Hp} (hs : ∀ (a : Nat) (e : va_E), h2 a = some e → h a = some e) (k : J v M R K t0 cells slots h2 top pc ls st) : J v M R K t0 cells slots h top pc ls st := by
  intro p l e s m args below meth c F H locs A hz hH hS hl
  exact k p l e s m args below meth c F H locs A hz (fun a x hx => hH a x (hs a x hx)) hS hl
end JR
end
section
/-! ===== J rows: fields, arrays, new cells, calls, ends, throws ===== -/
/-- a class of the worlds, with its tables -/
def Clk (ci : Nat) (C : String) (T : u_T) (N : Nat) (ty : Nat → FieldType) : Prop :=
  vwCl[ci]? = some (C, T, N) ∧ (∀ w ∈ u_ws C T N, w ∈ big) ∧ (∀ k, k < N → parseFieldDescriptor (T k).2.2.1 = some (ty k)) ∧ (∀ a, a < N → ∀ b, b < N → a ≠ b → (T a).2.1 ≠ (T b).2.1)
/-- the pool's place idx of the class own is the field k of the class ci -/
def Gf (own : String) (idx ci k : Nat) : Prop := ∃ (C : String) (T : u_T) (N : Nat) (ty : Nat → FieldType), Clk ci C T N ty ∧ k < N ∧
  (Cond.fieldLink own idx (T k).1 (T k).2.1 (T k).2.2.1 ∈ big ∨ ∃ host, Cond.fieldLinkNest own idx (T k).1 (T k).2.1 (T k).2.2.1 host ∈ lw_tbl)
def Pf (own : String) (idx ci k : Nat) (t : FieldType) : Prop := ∃ (C : String) (T : u_T) (N : Nat) (ty : Nat → FieldType), Clk ci C T N ty ∧ k < N ∧
  (Cond.fieldLink own idx (T k).1 (T k).2.1 (T k).2.2.1 ∈ big ∨ ∃ host, Cond.fieldLinkNest own idx (T k).1 (T k).2.1 (T k).2.2.1 host ∈ lw_tbl) ∧ (T k).2.2.2 = false ∧ parseFieldDescriptor (T k).2.2.1 = some t
def Pff (own : String) (idx ci k : Nat) (t : FieldType) : Prop := ∃ (C : String) (T : u_T) (N : Nat) (ty : Nat → FieldType), Clk ci C T N ty ∧ k < N ∧
  Cond.fieldLink own idx (T k).1 (T k).2.1 (T k).2.2.1 ∈ big ∧ (T k).2.2.2 = true ∧ (T k).1 = own ∧ parseFieldDescriptor (T k).2.2.1 = some t
theorem va_P1 {D : va_G} {cl : List vw_C} {q : Nat × va_E} {H : Heap} (h : va_at D cl q H) : va_P D cl [q] H := by
  intro k x hk
  match k, hk with
  | 0, hk => cases hk; exact h
theorem in_nI {x : Int32} {i n : Nat} (hx : x = nI i) (hn : i < n) (hN : n ≤ 2147483647) : vp_in x n ∧ x.toNatClampNeg = i := by
  subst hx
  exact ⟨vp_in_nI hn (by omega), nI_clamp (by omega)⟩
section JH
variable {v : Ev} {M : Md} {R : Room} {K : List Frame → Array Value → State → State → Prop} {t0 cells slots : Nat} {h : Hp} {top pc : Nat} {ls : List (Option Value)} {st : List Value}
theorem Fx.ht {p : Program} {l : Launch} {s : State} {m : MethodId} {args : Array Value} {meth : Method} {c : Code} (F : Fx v M t0 p l s m args meth c) : ∀ w ∈ big, w.before args s = true := F.2.2.2.2.1
theorem Fx.bs {p : Program} {l : Launch} {s : State} {m : MethodId} {args : Array Value} {meth : Method} {c : Code} (F : Fx v M t0 p l s m args meth c) : Bs v s := F.2.2.2.2.2.2.2.2.1
theorem Fx.nest {p : Program} {l : Launch} {s : State} {m : MethodId} {args : Array Value} {meth : Method} {c : Code} (F : Fx v M t0 p l s m args meth c) {w : Cond} (hw : w ∈ lw_tbl) (hk : nwk w = true) : w.before args s = true := va_Nw.use (nwk_on hk) (F.bs.2.1.1 w hw hk)
theorem Fx.z {p : Program} {l : Launch} {s : State} {m : MethodId} {args : Array Value} {meth : Method} {c : Code} (F : Fx v M t0 p l s m args meth c) : z0 v ≤ s.heap.size := by
  obtain ⟨-, -, -, -, -, -, -, -, -, h1, h2, -⟩ := F
  omega
theorem Fx.old {p : Program} {l : Launch} {s : State} {m : MethodId} {args : Array Value} {meth : Method} {c : Code} (F : Fx v M t0 p l s m args meth c) : Old v s s.heap := F.bs.2.2
theorem r_get {a idx k : Nat} {ci : Nat} {fs : List Value} {w : Value} (d : decode M.2.1 pc = .ok (.getfield idx, 3)) (g : Gf M.1.cls idx ci k) (hh : h a = some (ob ci fs)) (hv : fs[k]? = some w)
    (kk : J v M R K t0 cells slots h top (pc + 3) ls (w :: st)) : J v M R K t0 cells slots h top pc ls (.ref a :: st) := by
  intro p l e s m args below meth c F H locs A hz hH hS hl
  obtain ⟨C, T, N, ty, ⟨hc, hin, -, -⟩, hk, hlk⟩ := g
  have hP := va_P1 (hH a _ hh).2
  rcases hlk with hlk | ⟨host, hlk⟩
  · exact va_get F.1 F.2.1 F.ht hin F.2.2.2.1 F.bs.1 hP 0 rfl hc k hk (F.ht _ hlk) (fun _ q => q) hv d (kk p l e s m args below meth c F H locs A hz hH hS hl)
  · exact va_getN F.1 F.2.1 F.ht hin F.2.2.2.1 F.bs.1 hP 0 rfl hc k hk (F.nest hlk rfl) (fun _ q => q) hv d (kk p l e s m args below meth c F H locs A hz hH hS hl)
theorem r_put {a idx k ci : Nat} {fs : List Value} {w : Value} {t : FieldType} (d : decode M.2.1 pc = .ok (.putfield idx, 3)) (g : Pf M.1.cls idx ci k t) (hh : h a = some (ob ci fs)) (hlen : k < fs.length) (hn : narrow t w = w) (hf : fits t w = true)
    (kk : J v M R K t0 cells slots (hp h a (ob ci (fs.set k w))) top (pc + 3) ls st) : J v M R K t0 cells slots h top pc ls (w :: .ref a :: st) := by
  intro p l e s m args below meth c F H locs A hz hH hS hl
  obtain ⟨C, T, N, ty, ⟨hc, hin, hty, hnm⟩, hk, hlk, hfin, hd⟩ := g
  have hts := F.ht
  have hap := va_apart (own := M.1.cls) hts hin ty hty hnm F.bs.1 hc
  obtain ⟨hz0, r, h1, cell, q1, q2, q3, q4⟩ := hH a _ hh
  have hr : r = (C, T, N) := Option.some.inj (h1.symm.trans hc)
  subst hr
  obtain ⟨hSl, hfc, kC, hkC, hkind⟩ := F.bs.1.1 ci _ hc
  obtain ⟨cf, kf, fi, f, hi, hsl⟩ := hSl k hk
  have hlay := hts _ (hin _ (u_in_lay hk))
  unfold u_lay at hlay
  rw [if_neg (by rw [hfin]; decide)] at hlay
  have hst := (u_facts hfc hkC (u_lays hts hin hk) hi).1
  have h6 := u_store hfc hkC hkind hlay hi hd hn hf
  rcases hlk with hlk | ⟨host, hlk⟩
  · refine W.putK F.1 F.2.1 (f := f) ⟨F.2.2.2.1, hts _ hlk, ⟨_, _, _, hi⟩, hst⟩ (by rw [q2]; exact h6) q1 q3 (by rw [hsl]; exact k2_hasslot (q4 k hk)) rfl rfl d fun H1 e1 e2 e3 => ?_
    rw [hsl] at e1 ⊢
    exact kk p l e s m args below meth c F H1 _ A (e2.trans hz) (hH.set hz0 ⟨_, hc, t_OB.to (V := updV (vp_V fs) k w) ⟨_, e1, q2, q3, t_set q4 hap hk w⟩ (fun j _ => vp_updV_set hlen w j)⟩ e3) (hS.put e2 e3 hz0) hl
  · refine va_WputK F.1 F.2.1 (f := f) F.2.2.2.1 (F.nest hlk rfl) hi hst (by rw [q2]; exact h6) q1 q3 (by rw [hsl]; exact k2_hasslot (q4 k hk)) rfl rfl d fun H1 e1 e2 e3 => ?_
    rw [hsl] at e1 ⊢
    exact kk p l e s m args below meth c F H1 _ A (e2.trans hz) (hH.set hz0 ⟨_, hc, t_OB.to (V := updV (vp_V fs) k w) ⟨_, e1, q2, q3, t_set q4 hap hk w⟩ (fun j _ => vp_updV_set hlen w j)⟩ e3) (hS.put e2 e3 hz0) hl
theorem r_putF {a idx k ci : Nat} {fs : List Value} {w : Value} {t : FieldType} (d : decode M.2.1 pc = .ok (.putfield idx, 3)) (g : Pff M.1.cls idx ci k t) (hini : M.1.name = "<init>") (hh : h a = some (ob ci fs)) (hlen : k < fs.length) (hn : narrow t w = w) (hf : fits t w = true)
    (kk : J v M R K t0 cells slots (hp h a (ob ci (fs.set k w))) top (pc + 3) ls st) : J v M R K t0 cells slots h top pc ls (w :: .ref a :: st) := by
  intro p l e s m args below meth c F H locs A hz hH hS hl
  obtain ⟨C, T, N, ty, ⟨hc, hin, hty, hnm⟩, hk, hlk, hfin, hdecl, hd⟩ := g
  have hts := F.ht
  have hap := va_apart (own := M.1.cls) hts hin ty hty hnm F.bs.1 hc
  obtain ⟨hz0, r, h1, cell, q1, q2, q3, q4⟩ := hH a _ hh
  have hr : r = (C, T, N) := Option.some.inj (h1.symm.trans hc)
  subst hr
  obtain ⟨hSl, hfc, kC, hkC, hkind⟩ := F.bs.1.1 ci _ hc
  obtain ⟨cf, kf, fi, f, hi, hsl⟩ := hSl k hk
  have hlay := hts _ (hin _ (u_in_lay hk))
  unfold u_lay at hlay
  rw [if_pos hfin] at hlay
  have hst := (u_facts hfc hkC (u_lays hts hin hk) hi).1
  have hcf : m.cls = cf := by
    obtain ⟨_, _, c', _, _, _, -, -, hf', -, -, -, hown2, -⟩ := Cond.laysFinal_spec hlay
    have e1 : c' = cf := by have := hi.symm.trans hf'; simp at this; exact this.1.symm
    rw [hdecl] at hown2
    rw [← e1]; exact Option.some.inj (F.2.2.2.1.symm.trans hown2)
  have hnam : meth.name = "<init>" := by
    obtain ⟨-, -, -, -, -, -, -, -, -, -, -, h1, -⟩ := F
    rw [h1, hini]
  have h6 := u_fits hfc hkC hkind (Or.inr hlay) hi hd hn hf
  refine W.putFinK F.1 F.2.1 F.2.2.2.1 (hts _ hlk) hi hst hcf hnam (by rw [q2]; exact h6) q1 q3 (by rw [hsl]; exact k2_hasslot (q4 k hk)) rfl rfl d fun H1 e1 e2 e3 => ?_
  rw [hsl] at e1 ⊢
  exact kk p l e s m args below meth c F H1 _ A (e2.trans hz) (hH.set hz0 ⟨_, hc, t_OB.to (V := updV (vp_V fs) k w) ⟨_, e1, q2, q3, t_set q4 hap hk w⟩ (fun j _ => vp_updV_set hlen w j)⟩ e3) (hS.put e2 e3 hz0) hl
theorem r_iald {a n : Nat} {f : Nat → Int32} {x : Int32} (d : decode M.2.1 pc = .ok (.iaload, 1)) (hh : h a = some (aI v n f)) (i : Nat) (hx : x = nI i) (hn : i < n) (hN : n ≤ 2147483647) (kk : J v M R K t0 cells slots h top (pc + 1) ls (.int (f i) :: st)) : J v M R K t0 cells slots h top pc ls (.int x :: .ref a :: st) := by
  intro p l e s m args below meth c F H locs A hz hH hS hl
  obtain ⟨h1, h2⟩ := in_nI hx hn hN
  exact va_iald F.1 F.2.1 F.bs.1 (va_P1 (hH a _ hh).2) 0 0 rfl rfl h1 d (by rw [h2]; exact kk p l e s m args below meth c F H locs A hz hH hS hl)
theorem r_lald {a n : Nat} {f : Nat → Int64} {x : Int32} (d : decode M.2.1 pc = .ok (.laload, 1)) (hh : h a = some (aJ v n f)) (i : Nat) (hx : x = nI i) (hn : i < n) (hN : n ≤ 2147483647) (kk : J v M R K t0 cells slots h top (pc + 1) ls (.long (f i) :: st)) : J v M R K t0 cells slots h top pc ls (.int x :: .ref a :: st) := by
  intro p l e s m args below meth c F H locs A hz hH hS hl
  obtain ⟨h1, h2⟩ := in_nI hx hn hN
  exact va_lald F.1 F.2.1 F.bs.1 (va_P1 (hH a _ hh).2) 0 1 rfl rfl h1 d (by rw [h2]; exact kk p l e s m args below meth c F H locs A hz hH hS hl)
theorem r_fald {a n : Nat} {f : Nat → UInt32} {x : Int32} (d : decode M.2.1 pc = .ok (.faload, 1)) (hh : h a = some (aF v n f)) (i : Nat) (hx : x = nI i) (hn : i < n) (hN : n ≤ 2147483647) (kk : J v M R K t0 cells slots h top (pc + 1) ls (.float (f i) :: st)) : J v M R K t0 cells slots h top pc ls (.int x :: .ref a :: st) := by
  intro p l e s m args below meth c F H locs A hz hH hS hl
  obtain ⟨h1, h2⟩ := in_nI hx hn hN
  exact va_fald F.1 F.2.1 F.bs.1 (va_P1 (hH a _ hh).2) 0 2 rfl rfl h1 d (by rw [h2]; exact kk p l e s m args below meth c F H locs A hz hH hS hl)
theorem r_dald {a n : Nat} {f : Nat → UInt64} {x : Int32} (d : decode M.2.1 pc = .ok (.daload, 1)) (hh : h a = some (aD v n f)) (i : Nat) (hx : x = nI i) (hn : i < n) (hN : n ≤ 2147483647) (kk : J v M R K t0 cells slots h top (pc + 1) ls (.double (f i) :: st)) : J v M R K t0 cells slots h top pc ls (.int x :: .ref a :: st) := by
  intro p l e s m args below meth c F H locs A hz hH hS hl
  obtain ⟨h1, h2⟩ := in_nI hx hn hN
  exact va_dald F.1 F.2.1 F.bs.1 (va_P1 (hH a _ hh).2) 0 4 rfl rfl h1 d (by rw [h2]; exact kk p l e s m args below meth c F H locs A hz hH hS hl)
theorem r_bald {a n : Nat} {f : Nat → Int32} {x : Int32} (d : decode M.2.1 pc = .ok (.baload, 1)) (hh : h a = some (aB v n f)) (i : Nat) (hx : x = nI i) (hn : i < n) (hN : n ≤ 2147483647) (kk : J v M R K t0 cells slots h top (pc + 1) ls (.int (f i) :: st)) : J v M R K t0 cells slots h top pc ls (.int x :: .ref a :: st) := by
  intro p l e s m args below meth c F H locs A hz hH hS hl
  obtain ⟨h1, h2⟩ := in_nI hx hn hN
  exact va_bald F.1 F.2.1 F.bs.1 (va_P1 (hH a _ hh).2) 0 3 rfl rfl h1 d (by rw [h2]; exact kk p l e s m args below meth c F H locs A hz hH hS hl)
theorem r_iast {a n : Nat} {f : Nat → Int32} {x : Int32} {w : Int32} (d : decode M.2.1 pc = .ok (.iastore, 1)) (hh : h a = some (aI v n f)) (i : Nat) (hx : x = nI i) (hn : i < n) (hN : n ≤ 2147483647) (kk : J v M R K t0 cells slots (hp h a (aI v n (upd f i (w)))) top (pc + 1) ls st) : J v M R K t0 cells slots h top pc ls (.int w :: .int x :: .ref a :: st) := by
  intro p l e s m args below meth c F H locs A hz hH hS hl
  obtain ⟨h1, h2⟩ := in_nI hx hn hN
  obtain ⟨hz0, hat⟩ := hH a _ hh
  refine W.iast F.1 F.2.1 (show H[a]? = some (arrV (cA v 0) n (fun j => .int (f j))) from hat) ((F.bs.1.2 0 _ rfl).1 n (fun j => .int (f j))) (fun q => by cases q) (by rw [arrV_size]; exact h1) rfl rfl d fun H1 e1 z1 oq => ?_
  refine kk p l e s m args below meth c F H1 _ A (z1.trans hz) (hH.set hz0 ?_ oq) (hS.put z1 oq hz0) hl
  show H1[a]? = some (arrV (cA v 0) n (fun j => .int (upd f i (w) j)))
  rw [e1, arrV_store, h2]
  congr 2
  funext q
  by_cases hq : q = i
  · subst hq
    simp [updV, upd]
  · simp [updV, upd, hq]
theorem r_last {a n : Nat} {f : Nat → Int64} {x : Int32} {w : Int64} (d : decode M.2.1 pc = .ok (.lastore, 1)) (hh : h a = some (aJ v n f)) (i : Nat) (hx : x = nI i) (hn : i < n) (hN : n ≤ 2147483647) (kk : J v M R K t0 cells slots (hp h a (aJ v n (vp_updL f i (w)))) top (pc + 1) ls st) : J v M R K t0 cells slots h top pc ls (.long w :: .int x :: .ref a :: st) := by
  intro p l e s m args below meth c F H locs A hz hH hS hl
  obtain ⟨h1, h2⟩ := in_nI hx hn hN
  obtain ⟨hz0, hat⟩ := hH a _ hh
  refine W.last F.1 F.2.1 (show H[a]? = some (arrV (cA v 1) n (fun j => .long (f j))) from hat) ((F.bs.1.2 1 _ rfl).1 n (fun j => .long (f j))) (fun q => by cases q) (by rw [arrV_size]; exact h1) rfl rfl d fun H1 e1 z1 oq => ?_
  refine kk p l e s m args below meth c F H1 _ A (z1.trans hz) (hH.set hz0 ?_ oq) (hS.put z1 oq hz0) hl
  show H1[a]? = some (arrV (cA v 1) n (fun j => .long (vp_updL f i (w) j)))
  rw [e1, arrV_store, h2]
  congr 2
  funext q
  by_cases hq : q = i
  · subst hq
    simp [updV, vp_updL]
  · simp [updV, vp_updL, hq]
theorem r_fast {a n : Nat} {f : Nat → UInt32} {x : Int32} {w : UInt32} (d : decode M.2.1 pc = .ok (.fastore, 1)) (hh : h a = some (aF v n f)) (i : Nat) (hx : x = nI i) (hn : i < n) (hN : n ≤ 2147483647) (kk : J v M R K t0 cells slots (hp h a (aF v n (vf_upd f i (w)))) top (pc + 1) ls st) : J v M R K t0 cells slots h top pc ls (.float w :: .int x :: .ref a :: st) := by
  intro p l e s m args below meth c F H locs A hz hH hS hl
  obtain ⟨h1, h2⟩ := in_nI hx hn hN
  obtain ⟨hz0, hat⟩ := hH a _ hh
  refine W.fast F.1 F.2.1 (show H[a]? = some (arrV (cA v 2) n (fun j => .float (f j))) from hat) ((F.bs.1.2 2 _ rfl).1 n (fun j => .float (f j))) (fun q => by cases q) (by rw [arrV_size]; exact h1) rfl rfl d fun H1 e1 z1 oq => ?_
  refine kk p l e s m args below meth c F H1 _ A (z1.trans hz) (hH.set hz0 ?_ oq) (hS.put z1 oq hz0) hl
  show H1[a]? = some (arrV (cA v 2) n (fun j => .float (vf_upd f i (w) j)))
  rw [e1, arrV_store, h2]
  congr 2
  funext q
  by_cases hq : q = i
  · subst hq
    simp [updV, vf_upd]
  · simp [updV, vf_upd, hq]
theorem r_dast {a n : Nat} {f : Nat → UInt64} {x : Int32} {w : UInt64} (d : decode M.2.1 pc = .ok (.dastore, 1)) (hh : h a = some (aD v n f)) (i : Nat) (hx : x = nI i) (hn : i < n) (hN : n ≤ 2147483647) (kk : J v M R K t0 cells slots (hp h a (aD v n (vf_upd f i (w)))) top (pc + 1) ls st) : J v M R K t0 cells slots h top pc ls (.double w :: .int x :: .ref a :: st) := by
  intro p l e s m args below meth c F H locs A hz hH hS hl
  obtain ⟨h1, h2⟩ := in_nI hx hn hN
  obtain ⟨hz0, hat⟩ := hH a _ hh
  refine W.dast F.1 F.2.1 (show H[a]? = some (arrV (cA v 4) n (fun j => .double (f j))) from hat) ((F.bs.1.2 4 _ rfl).1 n (fun j => .double (f j))) (fun q => by cases q) (by rw [arrV_size]; exact h1) rfl rfl d fun H1 e1 z1 oq => ?_
  refine kk p l e s m args below meth c F H1 _ A (z1.trans hz) (hH.set hz0 ?_ oq) (hS.put z1 oq hz0) hl
  show H1[a]? = some (arrV (cA v 4) n (fun j => .double (vf_upd f i (w) j)))
  rw [e1, arrV_store, h2]
  congr 2
  funext q
  by_cases hq : q = i
  · subst hq
    simp [updV, vf_upd]
  · simp [updV, vf_upd, hq]
theorem r_bast {a n : Nat} {f : Nat → Int32} {x : Int32} {w : Int32} (d : decode M.2.1 pc = .ok (.bastore, 1)) (hh : h a = some (aB v n f)) (i : Nat) (hx : x = nI i) (hn : i < n) (hN : n ≤ 2147483647) (kk : J v M R K t0 cells slots (hp h a (aB v n (upd f i (vp_nar .byte w)))) top (pc + 1) ls st) : J v M R K t0 cells slots h top pc ls (.int w :: .int x :: .ref a :: st) := by
  intro p l e s m args below meth c F H locs A hz hH hS hl
  obtain ⟨h1, h2⟩ := in_nI hx hn hN
  obtain ⟨hz0, hat⟩ := hH a _ hh
  refine W.bast F.1 F.2.1 (show H[a]? = some (arrV (cA v 3) n (fun j => .int (f j))) from hat) ((F.bs.1.2 3 _ rfl).1 n (fun j => .int (f j))) (fun q => by cases q) (by rw [arrV_size]; exact h1) rfl rfl d fun H1 e1 z1 oq => ?_
  refine kk p l e s m args below meth c F H1 _ A (z1.trans hz) (hH.set hz0 ?_ oq) (hS.put z1 oq hz0) hl
  show H1[a]? = some (arrV (cA v 3) n (fun j => .int (upd f i (vp_nar .byte w) j)))
  rw [e1, arrV_store, h2]
  congr 2
  funext q
  by_cases hq : q = i
  · subst hq
    simp [updV, upd, vp_nar]
    try rfl
  · simp [updV, upd, hq]
theorem r_alenI {a n : Nat} {f : Nat → Int32} (d : decode M.2.1 pc = .ok (.arraylength, 1)) (hh : h a = some (aI v n f)) (kk : J v M R K t0 cells slots h top (pc + 1) ls (.int (nI n) :: st)) : J v M R K t0 cells slots h top pc ls (.ref a :: st) := by
  intro p l e s m args below meth c F H locs A hz hH hS hl
  exact va_alen F.1 F.2.1 F.bs.1 (va_P1 (hH a _ hh).2) 0 0 rfl rfl rfl d (kk p l e s m args below meth c F H locs A hz hH hS hl)
theorem r_alenJ {a n : Nat} {f : Nat → Int64} (d : decode M.2.1 pc = .ok (.arraylength, 1)) (hh : h a = some (aJ v n f)) (kk : J v M R K t0 cells slots h top (pc + 1) ls (.int (nI n) :: st)) : J v M R K t0 cells slots h top pc ls (.ref a :: st) := by
  intro p l e s m args below meth c F H locs A hz hH hS hl
  exact va_alen F.1 F.2.1 F.bs.1 (va_P1 (hH a _ hh).2) 0 1 rfl rfl rfl d (kk p l e s m args below meth c F H locs A hz hH hS hl)
theorem r_alenB {a n : Nat} {f : Nat → Int32} (d : decode M.2.1 pc = .ok (.arraylength, 1)) (hh : h a = some (aB v n f)) (kk : J v M R K t0 cells slots h top (pc + 1) ls (.int (nI n) :: st)) : J v M R K t0 cells slots h top pc ls (.ref a :: st) := by
  intro p l e s m args below meth c F H locs A hz hH hS hl
  exact va_alen F.1 F.2.1 F.bs.1 (va_P1 (hH a _ hh).2) 0 3 rfl rfl rfl d (kk p l e s m args below meth c F H locs A hz hH hS hl)
theorem r_iald1 {x : Int32} (d : decode M.2.1 pc = .ok (.iaload, 1)) (hx : x = nI 0) (kk : J v M R K t0 cells slots h top (pc + 1) ls (.int 1 :: st)) : J v M R K t0 cells slots h top pc ls (.int x :: .ref (oA v 0) :: st) := by
  intro p l e s m args below meth c F H locs A hz hH hS hl
  obtain ⟨h1, h2⟩ := in_nI (n := 1) hx (by omega) (by omega)
  exact va_ti F.1 F.2.1 F.old.2.1 hS h1 rfl d (kk p l e s m args below meth c F H locs A hz hH hS hl)
theorem r_alen1 (d : decode M.2.1 pc = .ok (.arraylength, 1)) (kk : J v M R K t0 cells slots h top (pc + 1) ls (.int (nI 1) :: st)) : J v M R K t0 cells slots h top pc ls (.ref (oA v 0) :: st) := by
  intro p l e s m args below meth c F H locs A hz hH hS hl
  exact va_tlen F.1 F.2.1 F.old.2.1 hS rfl d (kk p l e s m args below meth c F H locs A hz hH hS hl)
theorem r_getCost {idx : Nat} {host : String} (d : decode M.2.1 pc = .ok (.getstatic idx, 3)) (hw : Cond.fieldLinkNest M.1.cls idx "RandomWalks" "COST_ONE" "[I" host ∈ lw_tbl) (kk : J v M R K t0 cells slots h top (pc + 3) ls (.ref (oA v 0) :: st)) : J v M R K t0 cells slots h top pc ls st := by
  intro p l e s m args below meth c F H locs A hz hH hS hl
  exact va_getsN F.1 F.2.1 F.old.1 hS F.2.2.2.1 (F.nest hw rfl) (fun _ q => q) d (kk p l e s m args below meth c F H locs A hz hH hS hl)
theorem r_newaI {x : Int32} (n : Nat) (d : decode M.2.1 pc = .ok (.newarray .int, 2)) (hx : x = nI n) (hn : n ≤ 65536) (hw : Cond.arrayClass .int ∈ big) (hc : cells + 1 ≤ R.cells) (hs : slots + n ≤ R.slots)
    (kk : h top = none → J v M R K t0 (cells + 1) (slots + n) (hp h top (aI v n (fun _ => 0))) (top + 1) (pc + 2) ls (.ref top :: st)) : J v M R K t0 cells slots h top pc ls (.int x :: st) := by
  intro p l e s m args below meth c F H locs A hz hH hS hl
  subst hz
  have hfr : h H.size = none := by
    cases q : h H.size with
    | none => rfl
    | some e9 => exact absurd (hH.lt q) (Nat.lt_irrefl _)
  have h0 : z0 v ≤ H.size := Nat.le_trans F.z hS.1
  refine va_newaK F.1 F.2.1 (atype := .int) (F.ht _ hw) rfl d rfl (by rw [hx]; exact nI_pos (by omega)) (N := n) (by rw [hx]; exact nI_clamp (by omega)) (by show n * 4 ≤ 536870912; omega) hc hs rfl fun H1 cA1 e1 z1 o1 hAr hNm => ?_
  have hcA : cA1 = cA v 0 := Option.some.inj (hNm.symm.trans (F.bs.1.2 0 _ rfl).2)
  subst hcA
  exact kk hfr p l e s m args below meth c F H1 locs A (by omega) (hH.new h0 (show H1[H.size]? = some (arrV (cA v 0) n (fun _ => defaultValue .int)) from e1) o1) ⟨Nat.le_trans hS.1 (by omega), fun x h1 h2 => (o1 x (Nat.lt_of_lt_of_le h1 hS.1)).trans (hS.2.1 x h1 h2), hS.2.2⟩ hl
theorem r_newaJ {x : Int32} (n : Nat) (d : decode M.2.1 pc = .ok (.newarray .long, 2)) (hx : x = nI n) (hn : n ≤ 65536) (hw : Cond.arrayClass .long ∈ big) (hc : cells + 1 ≤ R.cells) (hs : slots + n ≤ R.slots)
    (kk : h top = none → J v M R K t0 (cells + 1) (slots + n) (hp h top (aJ v n (fun _ => 0))) (top + 1) (pc + 2) ls (.ref top :: st)) : J v M R K t0 cells slots h top pc ls (.int x :: st) := by
  intro p l e s m args below meth c F H locs A hz hH hS hl
  subst hz
  have hfr : h H.size = none := by
    cases q : h H.size with
    | none => rfl
    | some e9 => exact absurd (hH.lt q) (Nat.lt_irrefl _)
  have h0 : z0 v ≤ H.size := Nat.le_trans F.z hS.1
  refine va_newaK F.1 F.2.1 (atype := .long) (F.ht _ hw) rfl d rfl (by rw [hx]; exact nI_pos (by omega)) (N := n) (by rw [hx]; exact nI_clamp (by omega)) (by show n * 8 ≤ 536870912; omega) hc hs rfl fun H1 cA1 e1 z1 o1 hAr hNm => ?_
  have hcA : cA1 = cA v 1 := Option.some.inj (hNm.symm.trans (F.bs.1.2 1 _ rfl).2)
  subst hcA
  exact kk hfr p l e s m args below meth c F H1 locs A (by omega) (hH.new h0 (show H1[H.size]? = some (arrV (cA v 1) n (fun _ => defaultValue .long)) from e1) o1) ⟨Nat.le_trans hS.1 (by omega), fun x h1 h2 => (o1 x (Nat.lt_of_lt_of_le h1 hS.1)).trans (hS.2.1 x h1 h2), hS.2.2⟩ hl
theorem r_newaF {x : Int32} (n : Nat) (d : decode M.2.1 pc = .ok (.newarray .float, 2)) (hx : x = nI n) (hn : n ≤ 65536) (hw : Cond.arrayClass .float ∈ big) (hc : cells + 1 ≤ R.cells) (hs : slots + n ≤ R.slots)
    (kk : h top = none → J v M R K t0 (cells + 1) (slots + n) (hp h top (aF v n (fun _ => 0))) (top + 1) (pc + 2) ls (.ref top :: st)) : J v M R K t0 cells slots h top pc ls (.int x :: st) := by
  intro p l e s m args below meth c F H locs A hz hH hS hl
  subst hz
  have hfr : h H.size = none := by
    cases q : h H.size with
    | none => rfl
    | some e9 => exact absurd (hH.lt q) (Nat.lt_irrefl _)
  have h0 : z0 v ≤ H.size := Nat.le_trans F.z hS.1
  refine va_newaK F.1 F.2.1 (atype := .float) (F.ht _ hw) rfl d rfl (by rw [hx]; exact nI_pos (by omega)) (N := n) (by rw [hx]; exact nI_clamp (by omega)) (by show n * 4 ≤ 536870912; omega) hc hs rfl fun H1 cA1 e1 z1 o1 hAr hNm => ?_
  have hcA : cA1 = cA v 2 := Option.some.inj (hNm.symm.trans (F.bs.1.2 2 _ rfl).2)
  subst hcA
  exact kk hfr p l e s m args below meth c F H1 locs A (by omega) (hH.new h0 (show H1[H.size]? = some (arrV (cA v 2) n (fun _ => defaultValue .float)) from e1) o1) ⟨Nat.le_trans hS.1 (by omega), fun x h1 h2 => (o1 x (Nat.lt_of_lt_of_le h1 hS.1)).trans (hS.2.1 x h1 h2), hS.2.2⟩ hl
theorem r_newaB {x : Int32} (n : Nat) (d : decode M.2.1 pc = .ok (.newarray .byte, 2)) (hx : x = nI n) (hn : n ≤ 65536) (hw : Cond.arrayClass .byte ∈ big) (hc : cells + 1 ≤ R.cells) (hs : slots + n ≤ R.slots)
    (kk : h top = none → J v M R K t0 (cells + 1) (slots + n) (hp h top (aB v n (fun _ => 0))) (top + 1) (pc + 2) ls (.ref top :: st)) : J v M R K t0 cells slots h top pc ls (.int x :: st) := by
  intro p l e s m args below meth c F H locs A hz hH hS hl
  subst hz
  have hfr : h H.size = none := by
    cases q : h H.size with
    | none => rfl
    | some e9 => exact absurd (hH.lt q) (Nat.lt_irrefl _)
  have h0 : z0 v ≤ H.size := Nat.le_trans F.z hS.1
  refine va_newaK F.1 F.2.1 (atype := .byte) (F.ht _ hw) rfl d rfl (by rw [hx]; exact nI_pos (by omega)) (N := n) (by rw [hx]; exact nI_clamp (by omega)) (by show n * 1 ≤ 536870912; omega) hc hs rfl fun H1 cA1 e1 z1 o1 hAr hNm => ?_
  have hcA : cA1 = cA v 3 := Option.some.inj (hNm.symm.trans (F.bs.1.2 3 _ rfl).2)
  subst hcA
  exact kk hfr p l e s m args below meth c F H1 locs A (by omega) (hH.new h0 (show H1[H.size]? = some (arrV (cA v 3) n (fun _ => defaultValue .byte)) from e1) o1) ⟨Nat.le_trans hS.1 (by omega), fun x h1 h2 => (o1 x (Nat.lt_of_lt_of_le h1 hS.1)).trans (hS.2.1 x h1 h2), hS.2.2⟩ hl
theorem r_newaD {x : Int32} (n : Nat) (d : decode M.2.1 pc = .ok (.newarray .double, 2)) (hx : x = nI n) (hn : n ≤ 65536) (hw : Cond.arrayClass .double ∈ big) (hc : cells + 1 ≤ R.cells) (hs : slots + n ≤ R.slots)
    (kk : h top = none → J v M R K t0 (cells + 1) (slots + n) (hp h top (aD v n (fun _ => 0))) (top + 1) (pc + 2) ls (.ref top :: st)) : J v M R K t0 cells slots h top pc ls (.int x :: st) := by
  intro p l e s m args below meth c F H locs A hz hH hS hl
  subst hz
  have hfr : h H.size = none := by
    cases q : h H.size with
    | none => rfl
    | some e9 => exact absurd (hH.lt q) (Nat.lt_irrefl _)
  have h0 : z0 v ≤ H.size := Nat.le_trans F.z hS.1
  refine va_newaK F.1 F.2.1 (atype := .double) (F.ht _ hw) rfl d rfl (by rw [hx]; exact nI_pos (by omega)) (N := n) (by rw [hx]; exact nI_clamp (by omega)) (by show n * 8 ≤ 536870912; omega) hc hs rfl fun H1 cA1 e1 z1 o1 hAr hNm => ?_
  have hcA : cA1 = cA v 4 := Option.some.inj (hNm.symm.trans (F.bs.1.2 4 _ rfl).2)
  subst hcA
  exact kk hfr p l e s m args below meth c F H1 locs A (by omega) (hH.new h0 (show H1[H.size]? = some (arrV (cA v 4) n (fun _ => defaultValue .double)) from e1) o1) ⟨Nat.le_trans hS.1 (by omega), fun x h1 h2 => (o1 x (Nat.lt_of_lt_of_le h1 hS.1)).trans (hS.2.1 x h1 h2), hS.2.2⟩ hl
theorem r_anewG {x : Int32} {idx : Nat} (n : Nat) (d : decode M.2.1 pc = .ok (.anewarray idx, 3)) (hx : x = nI n) (hn : n ≤ 65536) (hw : Cond.classLink M.1.cls idx "RandomWalks$Graph" ∈ big) (hc : cells + 1 ≤ R.cells) (hs : slots + n ≤ R.slots)
    (kk : h top = none → J v M R K t0 (cells + 1) (slots + n) (hp h top (aG v n (fun _ => none))) (top + 1) (pc + 3) ls (.ref top :: st)) : J v M R K t0 cells slots h top pc ls (.int x :: st) := by
  intro p l e s m args below meth c F H locs A hz hH hS hl
  subst hz
  have hfr : h H.size = none := by
    cases q : h H.size with
    | none => rfl
    | some e9 => exact absurd (hH.lt q) (Nat.lt_irrefl _)
  have h0 : z0 v ≤ H.size := Nat.le_trans F.z hS.1
  have hcl : x.toNatClampNeg = n := by rw [hx]; exact nI_clamp (by omega)
  refine W.anew F.1 F.2.1 F.2.2.2.1 (F.ht _ hw) (va_AO.use F.bs.2.1.2.2.2) rfl d rfl (by rw [hx]; exact nI_pos (by omega)) (by rw [hcl]; omega) hc (by rw [hcl]; exact hs) fun cA1 kA comp f1 f2 f3 f4 => ?_
  rw [hcl]
  generalize hH1 : H.push ({ cls := cA1, slots := Array.replicate n .null, vm := .none } : Cell) = H1
  have z1 : H1.size = H.size + 1 := by rw [← hH1, Array.size_push]
  have e1 : H1[H.size]? = some (arrV cA1 n (fun _ => .null)) := by rw [← hH1, Array.getElem?_push_size, ← arrV_new]
  have o1 : ∀ q : Nat, q < H.size → H1[q]? = H[q]? := fun q hq => by rw [← hH1, Array.getElem?_push, if_neg (Nat.ne_of_lt hq)]
  have hcA : cA1 = cA v 5 := by
    obtain ⟨kA2, comp2, g1, g2, g3, g4⟩ := (F.bs.1.2 5 _ rfl).2
    exact Option.some.inj (f1.symm.trans g4)
  subst hcA
  exact kk hfr p l e s m args below meth c F H1 locs A (by omega) (hH.new h0 (show H1[H.size]? = some (arrV (cA v 5) n (fun _ => .null)) from e1) o1) ⟨Nat.le_trans hS.1 (by omega), fun x h1 h2 => (o1 x (Nat.lt_of_lt_of_le h1 hS.1)).trans (hS.2.1 x h1 h2), hS.2.2⟩ hl
/-- a new object of the class ci: its words -/
def Nw (own : String) (idx ci : Nat) (N : Nat) (fs : List Value) : Prop := ∃ (C : String) (T : u_T) (ty : Nat → FieldType), Clk ci C T N ty ∧ Cond.classLink own idx C ∈ big ∧ Cond.instantiable C N ∈ big ∧ Cond.initialized C ∈ big ∧ ∀ j, j < N → defaultValue (ty j) = vp_V fs j
theorem r_new {idx ci N : Nat} {fs : List Value} (d : decode M.2.1 pc = .ok (.new idx, 3)) (g : Nw M.1.cls idx ci N fs) (hc : cells + 1 ≤ R.cells) (hs : slots + N ≤ R.slots)
    (kk : h top = none → J v M R K t0 (cells + 1) (slots + N) (hp h top (ob ci fs)) (top + 1) (pc + 3) ls (.ref top :: st)) : J v M R K t0 cells slots h top pc ls st := by
  intro p l e s m args below meth c F H locs A hz hH hS hl
  subst hz
  have hfr : h H.size = none := by
    cases q : h H.size with
    | none => rfl
    | some e9 => exact absurd (hH.lt q) (Nat.lt_irrefl _)
  have h0 : z0 v ≤ H.size := Nat.le_trans F.z hS.1
  obtain ⟨C, T, ty, ⟨hci, hin, hty, -⟩, w1, w2, w3, hfs⟩ := g
  have hKn := F.bs.1.1 ci _ hci
  refine W.newcK F.1 F.2.1 F.2.2.2.1 (F.ht _ w1) (F.ht _ w2) (F.ht _ w3) rfl d hc hs hKn.2.1 rfl fun H1 kC hkC e1 z1 o1 => ?_
  exact kk hfr p l e s m args below meth c F H1 locs A (by omega) (hH.new h0 ⟨_, hci, (u_born ty F.ht hin hKn hkC e1 hty).to hfs⟩ o1) ⟨Nat.le_trans hS.1 (by omega), fun x h1 h2 => (o1 x (Nat.lt_of_lt_of_le h1 hS.1)).trans (hS.2.1 x h1 h2), hS.2.2⟩ hl
theorem r_objInit {a idx : Nat} (d : decode M.2.1 pc = .ok (.invokespecial idx, 3)) (hw : Cond.methodLink M.1.cls idx Lib.objectInit ∈ big) (hw2 : Cond.instanceMethod Lib.objectInit ∈ big) (hw3 : Cond.code Lib.objectInit ⟨#[0xb1]⟩ 1 none ∈ big) (hf : 1 ≤ R.frames) (hl2 : (st.map fun w => w.category).sum + 12 ≤ R.locals)
    (kk : J v M R K t0 cells slots h top (pc + 3) ls st) : J v M R K t0 cells slots h top pc ls (.ref a :: st) := by
  intro p l e s m args below meth c F H locs A hz hH hS hl
  exact W.objInit F.1 F.2.1 F.2.2.2.1 (F.ht _ hw) (F.ht _ hw2) (F.ht _ hw3) rfl (hl.1.trans F.2.2.1.symm) rfl d hf (by show 2 * 0 + _ + 12 ≤ _; omega) (kk p l e s m args below meth c F H locs A hz hH hS hl)
theorem r_aald {a n : Nat} {f : Nat → Option Nat} {x : Int32} (d : decode M.2.1 pc = .ok (.aaload, 1)) (hh : h a = some (aG v n f)) (i : Nat) (hx : x = nI i) (hn : i < n) (hN : n ≤ 2147483647) (kk : J v M R K t0 cells slots h top (pc + 1) ls (va_rf (f i) :: st)) : J v M R K t0 cells slots h top pc ls (.int x :: .ref a :: st) := by
  intro p l e s m args below meth c F H locs A hz hH hS hl
  obtain ⟨h1, h2⟩ := in_nI hx hn hN
  exact va_aldq F.1 F.2.1 F.bs.1 (va_P1 (hH a _ hh).2) 0 5 rfl rfl h1 d (by rw [h2]; exact kk p l e s m args below meth c F H locs A hz hH hS hl)
theorem r_aast {a n b : Nat} {f : Nat → Option Nat} {x : Int32} {fs : List Value} (d : decode M.2.1 pc = .ok (.aastore, 1)) (hh : h a = some (aG v n f)) (hb : h b = some (ob 3 fs)) (i : Nat) (hx : x = nI i) (hn : i < n) (hN : n ≤ 2147483647) (kk : J v M R K t0 cells slots (hp h a (aG v n (va_up f i (some b)))) top (pc + 1) ls st) : J v M R K t0 cells slots h top pc ls (.ref b :: .int x :: .ref a :: st) := by
  intro p l e s m args below meth c F H locs A hz hH hS hl
  obtain ⟨h1, h2⟩ := in_nI hx hn hN
  have hlt : x.toNatClampNeg < n := by omega
  have h0 : ¬ x < 0 := fun q => h1 (Or.inl q)
  obtain ⟨hz0, hat⟩ := hH a _ hh
  obtain ⟨-, r', hr', cellV, g1, g2, g3, -⟩ := hH b _ hb
  have hcls := (F.bs.1.1 3 (RX3, TX3, 10) rfl).2
  obtain ⟨kA, comp, k1, k2, k3, -⟩ := (F.bs.1.2 5 _ rfl).2
  have hcomp : comp = v.1.1 3 := Option.some.inj (k3.symm.trans hcls.1)
  subst hcomp
  obtain ⟨kC, hkC, -⟩ := id hcls.2
  refine W.aast F.1 F.2.1 (show H[a]? = some (arrV (cA v 5) n (fun j => va_rf (f j))) from hat) (fun q hq => by cases hq) (fun hq => by cases hq) k1 k2 rfl hkC ⟨h0, by rw [arrV_size]; exact hlt⟩ g1 (fun q hq => by rw [g3] at hq; cases hq) (by rw [g2]; exact hkC) (by rw [g2]; exact va_assign hcls) rfl rfl d fun H1 e1 z1 oq => ?_
  refine kk p l e s m args below meth c F H1 _ A (z1.trans hz) (hH.set hz0 ?_ oq) (hS.put z1 oq hz0) hl
  show H1[a]? = some (arrV (cA v 5) n (fun j => va_rf (va_up f i (some b) j)))
  rw [e1, arrV_store, h2]
  congr 2
  funext q
  by_cases hq : q = i
  · subst hq
    simp [updV, va_up, va_rf]
  · simp [updV, va_up, hq]
end JH
end
section
/-! ===== J rows: calls, ends, throws, the JDK's small ones ===== -/
def MwB (M : Md) (n : Nat) : Prop := cw M ∈ big ∧ Cond.initialized M.1.cls ∈ big ∧ (M.1.cls ≠ "java/lang/invoke/MethodHandle" ∧ M.1.cls ≠ "java/lang/invoke/VarHandle") ∧ (parseMethodDescriptor M.1.desc).map (fun d => d.parameters.length) = some n
def MwV (M : Md) (n : Nat) : Prop := MwB M n ∧ Cond.instanceMethod M.1 ∈ big ∧ Cond.selects M.1.cls M.1 M.1 ∈ big
def MwS (M : Md) (n : Nat) : Prop := MwB M n ∧ Cond.static M.1 ∈ big
def MwI (M : Md) (n : Nat) : Prop := MwB M n ∧ M.1.name = "<init>" ∧ Cond.instanceMethod M.1 ∈ big
/-- what a callee of d' frames asks of the room -/
def Fits (R : Room) (M' : Md) (d' : Nat) : Prop := d' + 1 ≤ R.frames ∧ 8 + (M'.2.2.1 + 11) + 60 * d' ≤ R.locals
theorem good_big {M' : Md} (hc : cw M' ∈ big) : GoodIn big (cw M' :: big) := by
  intro w hw
  have hb : w ∈ big := by
    rcases List.mem_cons.mp hw with h | h
    · rw [h]; exact hc
    · exact h
  exact ⟨hb, good_of_word (big_good hb)⟩
theorem desc_len {M' : Md} {n : Nat} (h : (parseMethodDescriptor M'.1.desc).map (fun d => d.parameters.length) = some n) : ∀ sig, parseMethodDescriptor M'.1.desc = some sig → n = sig.parameters.length := by
  intro sig hs
  rw [hs] at h
  exact (Option.some.inj h).symm
section JC
variable {v : Ev} {M : Md} {R : Room} {K : List Frame → Array Value → State → State → Prop} {t0 cells slots : Nat} {h : Hp} {top pc : Nat} {ls : List (Option Value)} {st : List Value}
theorem J_pre {p : Program} {l : Launch} {s : State} {m : MethodId} {args : Array Value} {meth : Method} {c : Code} (F : Fx v M t0 p l s m args meth c) {H : Heap} {locs : List Loc} (hz : H.size = top) (hH : Hh v h H) (hS : va_S (Ar v) s.heap H locs) {U : State} (hU : U.heap = H) (hW : s.WarmedH U.vm) : Rp v h top U :=
  ⟨F.bs.warm hW (hS.F hU), by rw [hU]; exact hz, by rw [← hz]; exact Nat.le_trans F.z hS.1, by rw [hU]; exact hH⟩
/-- behind a call -/
theorem J_after {p : Program} {l : Launch} {e : Env} {R : Room} {s : State} {m : MethodId} {args : Array Value} {below : List Frame} {meth : Method} {c : Code} {H : Heap} {locs : List Loc} {cells slots : Nat} {Q : State → Prop} {mc ms : Nat} {A : Array Slot} {st0 rest : List Value} {a : Array Value} {Qr : Option Value → Hp → Nat → Prop} {Qx : String → Hp → Nat → Prop}
    (hr : vx_Run p l e R s m args below meth c H locs cells slots mc ms (F0 m pc A st0) rest (Qc v Qr a) (XC v Qx) (Ar v)) (hS : va_S (Ar v) s.heap H locs)
    (k : ∀ (r : Option Value) (h' : Hp) (top' : Nat) (H' : Heap) (locs' : List Loc), Qr r h' top' → H'.size = top' → Hh v h' H' → va_S (Ar v) s.heap H' locs' → W p l e R s m args below meth c H' locs' (cells + mc) (slots + ms) Q (F0 m (pc + 3) A (r.toList ++ rest)))
    (kx : ∀ (E : String) (ce : Cell) (q : Addr) (h' : Hp) (top' : Nat) (H' : Heap) (locs' : List Loc), Qx E h' top' → H'.size = top' → Hh v h' H' → va_S (Ar v) s.heap H' locs' → H'[q]? = some ce → ce.vm = .none → s.vm.findClass E = some ce.cls → vx_W p l e R s m args below meth c H' locs' (cells + mc) (slots + ms) Q (F0 m pc A rest) q) :
    W p l e R s m args below meth c H locs cells slots Q (F0 m pc A st0) := by
  intro T hT X
  rcases hr T hT X with ⟨rv, st₀, t, T', L, g0, X', hL, e1, e2, ⟨⟨r, h', top', hoc, hq, hz', hH'⟩, hF⟩, hgo⟩ | ⟨q, st₀, t, T', L, E, ce, g0, X', hL, e1, e2, ⟨⟨h', top', hq, hz', hH'⟩, hF⟩, hce, hcv, hcl, hgo⟩
  · cases hoc
    obtain ⟨-, -, hS1⟩ := vx_keep g0 e1 hS (fun _ _ x => x) (fun _ x => x) hL hF
    obtain ⟨t2, a1, b1⟩ := k rv h' top' T'.heap (locs ++ L) hq (by rw [e1]; exact hz') (by rw [e1]; exact hH') hS1 T' rfl X'
    exact ⟨t2, hgo t2 a1, b1⟩
  · obtain ⟨-, -, hS1⟩ := vx_keep g0 e1 hS (fun _ _ x => x) (fun _ x => x) hL hF
    obtain ⟨t2, a1, b1⟩ := kx E ce q h' top' T'.heap (locs ++ L) hq (by rw [e1]; exact hz') (by rw [e1]; exact hH') hS1 (by rw [e1]; exact hce) hcv hcl T' rfl X'
    exact ⟨t2, hgo.trans a1, b1⟩
theorem J_callB {M' : Md} {idx n d' mc' ms' : Nat} {p : Program} {l : Launch} {s : State} {m : MethodId} {args : Array Value} {meth : Method} {c : Code} (F : Fx v M t0 p l s m args meth c) (hh : M'.2.2.2.2 = []) (mw : MwB M' n) (hl : Cond.methodLink M.1.cls idx M'.1 ∈ big) (hR : Fits R M' d') :
    CallB R s args M.1.cls idx M'.1 M'.2.1 M'.2.2.1 M'.2.2.2.1 (cw M' :: big) (rmOf d' mc' ms') mc' ms' n := by
  have hc : cw M' = Cond.code M'.1 M'.2.1 M'.2.2.1 M'.2.2.2.1 := by unfold cw; rw [hh]
  obtain ⟨w1, w2, w3, w4⟩ := mw
  refine ⟨rfl, rfl, hR.1, hR.2, pay_in F.ht (good_big w1), by rw [hc]; exact List.mem_cons_self, by rw [← hc]; exact F.ht _ w1, F.ht _ w2, w3, desc_len w4, F.ht _ hl⟩
/-- a call of a method that doesn't throw -/
theorem r_callV {M' : Md} {idx n d' mc' ms' b ci : Nat} {fs As rest : List Value} {r : vw_C} {Qr : Option Value → Hp → Nat → Prop} (d : decode M.2.1 pc = .ok (.invokevirtual idx, 3)) (hl : Cond.methodLink M.1.cls idx M'.1 ∈ big) (hh : M'.2.2.2.2 = []) (mw : MwV M' n) (hR : Fits R M' d')
    (hb : h b = some (ob ci fs)) (hci : vwCl[ci]? = some r) (hr1 : r.1 = M'.1.cls) (hC : Cal v M' d' mc' ms' (.ref b :: As) h top Qr noX) (hst : st = As.reverse ++ .ref b :: rest) (hn : As.length = n) (hW : (rest.map fun w => w.category).sum ≤ 8) (hc : cells + mc' ≤ R.cells) (hs : slots + ms' ≤ R.slots)
    (k : ∀ (rv : Option Value) (h' : Hp) (top' : Nat), Qr rv h' top' → J v M R K t0 (cells + mc') (slots + ms') h' top' (pc + 3) ls (rv.toList ++ rest)) : J v M R K t0 cells slots h top pc ls st := by
  intro p l e s m args below meth c F H locs A hz hH hS hl2
  obtain ⟨w0, w5, w6⟩ := mw
  subst hst
  have hrecv : ∃ cellB : Cell, H[b]? = some cellB ∧ cellB.vm.isStatics = false ∧ s.vm.findClass M'.1.cls = some cellB.cls := by
    rw [← hr1]
    exact va_recv F.bs.1 (va_P1 (hH b _ hb).2) hci (q0 := 0) rfl
  refine J_after (vx_runV (Ts := big) (own := M.1.cls) (C := M'.1.cls) ⟨F.1, F.2.1, F.2.2.1, F.2.2.2.1, F.ht⟩ (hC l F.2.2.2.2.2.2.2.1) ⟨J_callB F hh w0 hl hR, F.ht _ w5, F.ht _ w6⟩ ⟨Rp.blind, hrecv, fun U hU hW1 => ⟨rfl, J_pre F hz hH hS hU hW1⟩⟩ rfl hn hl2.1 rfl (by show 2 * 0 + _ ≤ 8; omega) d ⟨hc, hs⟩) hS ?_ ?_
  · intro rv h' top' H' locs' hq hz' hH' hS'
    exact k rv h' top' hq p l e s m args below meth c F H' locs' A hz' hH' hS' hl2
  · intro E ce q h' top' H' locs' hq
    exact hq.elim
theorem r_callS {M' : Md} {idx n d' mc' ms' : Nat} {As rest : List Value} {Qr : Option Value → Hp → Nat → Prop} (d : decode M.2.1 pc = .ok (.invokestatic idx, 3)) (hl : Cond.methodLink M.1.cls idx M'.1 ∈ big) (hh : M'.2.2.2.2 = []) (mw : MwS M' n) (hR : Fits R M' d')
    (hC : Cal v M' d' mc' ms' As h top Qr noX) (hst : st = As.reverse ++ rest) (hn : As.length = n) (hW : (rest.map fun w => w.category).sum ≤ 8) (hc : cells + mc' ≤ R.cells) (hs : slots + ms' ≤ R.slots)
    (k : ∀ (rv : Option Value) (h' : Hp) (top' : Nat), Qr rv h' top' → J v M R K t0 (cells + mc') (slots + ms') h' top' (pc + 3) ls (rv.toList ++ rest)) : J v M R K t0 cells slots h top pc ls st := by
  intro p l e s m args below meth c F H locs A hz hH hS hl2
  obtain ⟨w0, w5⟩ := mw
  subst hst
  refine J_after (vx_runS (Ts := big) (own := M.1.cls) ⟨F.1, F.2.1, F.2.2.1, F.2.2.2.1, F.ht⟩ (hC l F.2.2.2.2.2.2.2.1) ⟨J_callB F hh w0 hl hR, F.ht _ w5⟩ ⟨Rp.blind, fun U hU hW1 => ⟨rfl, J_pre F hz hH hS hU hW1⟩⟩ rfl hn hl2.1 rfl (by show 2 * 0 + _ ≤ 8; omega) d ⟨hc, hs⟩) hS ?_ ?_
  · intro rv h' top' H' locs' hq hz' hH' hS'
    exact k rv h' top' hq p l e s m args below meth c F H' locs' A hz' hH' hS' hl2
  · intro E ce q h' top' H' locs' hq
    exact hq.elim
/-- a static call of a method with a table of handlers, which throws nothing -/
theorem r_callSH {M' : Md} {idx n d' mc' ms' : Nat} {As rest : List Value} {Qr : Option Value → Hp → Nat → Prop} {x : Nat × Nat × Nat × Nat} {hs1 : List (Nat × Nat × Nat × Nat)} (d : decode M.2.1 pc = .ok (.invokestatic idx, 3)) (hl : Cond.methodLink M.1.cls idx M'.1 ∈ big) (hh : M'.2.2.2.2 = x :: hs1) (mw : MwS M' n) (hR : Fits R M' d')
    (hC : Cal v M' d' mc' ms' As h top Qr noX) (hst : st = As.reverse ++ rest) (hn : As.length = n) (hW : (rest.map fun w => w.category).sum ≤ 8) (hc : cells + mc' ≤ R.cells) (hs : slots + ms' ≤ R.slots)
    (k : ∀ (rv : Option Value) (h' : Hp) (top' : Nat), Qr rv h' top' → J v M R K t0 (cells + mc') (slots + ms') h' top' (pc + 3) ls (rv.toList ++ rest)) : J v M R K t0 cells slots h top pc ls st := by
  intro p l e s m args below meth c F H locs A hz hH hS hl2
  obtain ⟨⟨w1, w2, w3, w4⟩, w5⟩ := mw
  subst hst
  have hcw : cw M' = Cond.codeWith M'.1 M'.2.1 M'.2.2.1 M'.2.2.2.1 M'.2.2.2.2 := by unfold cw; rw [hh]
  refine J_after (vx_runSX (Ts := big) (own := M.1.cls) (hh := M'.2.2.2.2) (bytes := M'.2.1) (maxL := M'.2.2.1) (ret := M'.2.2.2.1) ⟨F.1, F.2.1, F.2.2.1, F.2.2.2.1, F.ht⟩ (hC l F.2.2.2.2.2.2.2.1) ⟨⟨rfl, rfl, hR.1, hR.2, pay_in F.ht (good_big w1), by rw [hcw]; exact List.mem_cons_self⟩, by rw [← hcw]; exact F.ht _ w1, F.ht _ w2, w3, desc_len w4, F.ht _ hl, F.ht _ w5⟩ ⟨Rp.blind, fun U hU hW1 => ⟨rfl, J_pre F hz hH hS hU hW1⟩⟩ rfl hn hl2.1 rfl (by show 2 * 0 + _ ≤ 8; omega) d ⟨hc, hs⟩) hS ?_ ?_
  · intro rv h' top' H' locs' hq hz' hH' hS'
    exact k rv h' top' hq p l e s m args below meth c F H' locs' A hz' hH' hS' hl2
  · intro E ce q h' top' H' locs' hq
    exact hq.elim
theorem r_callI {M' : Md} {idx n d' mc' ms' b : Nat} {As rest : List Value} {Qr : Option Value → Hp → Nat → Prop} (d : decode M.2.1 pc = .ok (.invokespecial idx, 3)) (hl : Cond.methodLink M.1.cls idx M'.1 ∈ big ∨ ∃ host, Cond.methodLinkNest M.1.cls idx M'.1 host ∈ lw_tbl) (hh : M'.2.2.2.2 = []) (hret : M'.2.2.2.1 = none) (mw : MwI M' n) (hR : Fits R M' d')
    (hC : Cal v M' d' mc' ms' (.ref b :: As) h top Qr noX) (hst : st = As.reverse ++ .ref b :: rest) (hn : As.length = n) (hW : (rest.map fun w => w.category).sum ≤ 8) (hc : cells + mc' ≤ R.cells) (hs : slots + ms' ≤ R.slots)
    (k : ∀ (rv : Option Value) (h' : Hp) (top' : Nat), Qr rv h' top' → J v M R K t0 (cells + mc') (slots + ms') h' top' (pc + 3) ls (rv.toList ++ rest)) : J v M R K t0 cells slots h top pc ls st := by
  intro p l e s m args below meth c F H locs A hz hH hS hl2
  obtain ⟨w0, w5, w6⟩ := mw
  subst hst
  rcases hl with hl | ⟨host, hl⟩
  · refine J_after (vx_runI (Ts := big) (own := M.1.cls) ⟨F.1, F.2.1, F.2.2.1, F.2.2.2.1, F.ht⟩ (hC l F.2.2.2.2.2.2.2.1) ⟨hret ▸ J_callB F hh w0 hl hR, w5, F.ht _ w6⟩ ⟨Rp.blind, fun U hU hW1 => ⟨rfl, J_pre F hz hH hS hU hW1⟩⟩ rfl hn hl2.1 rfl (by show 2 * 0 + _ ≤ 8; omega) d ⟨hc, hs⟩) hS ?_ ?_
    · intro rv h' top' H' locs' hq hz' hH' hS'
      exact k rv h' top' hq p l e s m args below meth c F H' locs' A hz' hH' hS' hl2
    · intro E ce q h' top' H' locs' hq
      exact hq.elim
  · obtain ⟨w1, w2, w3, w4⟩ := w0
    have hcw : cw M' = Cond.code M'.1 M'.2.1 M'.2.2.1 none := by unfold cw; rw [hh, hret]
    refine J_after (vx_runIN (Ts := big) (own := M.1.cls) (host := host) (bytes := M'.2.1) (maxL := M'.2.2.1) ⟨F.1, F.2.1, F.2.2.1, F.2.2.2.1, F.ht⟩ (hC l F.2.2.2.2.2.2.2.1) ⟨⟨⟨rfl, rfl, hR.1, hR.2, pay_in F.ht (good_big w1), by rw [hcw]; exact List.mem_cons_self⟩, by rw [← hcw]; exact F.ht _ w1, F.ht _ w2, w3, desc_len w4, F.nest hl rfl⟩, w5, F.ht _ w6⟩ ⟨Rp.blind, fun U hU hW1 => ⟨rfl, J_pre F hz hH hS hU hW1⟩⟩ rfl hn hl2.1 rfl (by show 2 * 0 + _ ≤ 8; omega) d ⟨hc, hs⟩) hS ?_ ?_
    · intro rv h' top' H' locs' hq hz' hH' hS'
      exact k rv h' top' hq p l e s m args below meth c F H' locs' A hz' hH' hS' hl2
    · intro E ce q h' top' H' locs' hq
      exact hq.elim
/-- what was thrown goes on to the caller -/
theorem J_out {Qr : Option Value → Hp → Nat → Prop} {Qx : String → Hp → Nat → Prop} {mc ms : Nat} {p : Program} {l : Launch} {e : Env} {R : Room} {s : State} {m : MethodId} {args : Array Value} {below : List Frame} {meth : Method} {c : Code} {H : Heap} {locs : List Loc} {cells slots : Nat} {A : Array Slot} {rest : List Value} {E : String} {ce : Cell} {q : Addr}
    (F : Fx v M t0 p l s m args meth c) (hhM : M.2.2.2.2 = []) (hx : Qx E h top) (hz : H.size = top) (hH : Hh v h H) (hS : va_S (Ar v) s.heap H locs) (hcell : H[q]? = some ce) (hv : ce.vm = .none) (hcl : s.vm.findClass E = some ce.cls) (hc : cells ≤ mc) (hs : slots ≤ ms) :
    vx_W p l e R s m args below meth c H locs cells slots (KM v Qr Qx mc ms below args s) (F0 m pc A rest) q := by
  have htab : ∀ x ∈ c.exceptionTable.toList, covers x pc = false := by
    obtain ⟨-, -, -, -, -, -, -, -, -, -, -, -, h1⟩ := F
    rw [h1, hhM]
    intro x hx
    cases hx
  exact vx_out htab F.2.2.2.2.2.2.1 hcell hv hcl (fun t ht _ => ⟨⟨h, top, hx, by rw [ht]; exact hz, by rw [ht]; exact hH⟩, hS.F ht⟩) hS.2.2 hc hs
/-- a call of a method that may throw; what it throws goes on -/
theorem r_callVX {M' : Md} {idx n d' mc' ms' b ci mc ms : Nat} {fs As rest : List Value} {r : vw_C} {Qr Qr0 : Option Value → Hp → Nat → Prop} {Qx Qx0 : String → Hp → Nat → Prop} (d : decode M.2.1 pc = .ok (.invokevirtual idx, 3)) (hl : Cond.methodLink M.1.cls idx M'.1 ∈ big) (hh : M'.2.2.2.2 = []) (hhM : M.2.2.2.2 = []) (mw : MwV M' n) (hR : Fits R M' d')
    (hb : h b = some (ob ci fs)) (hci : vwCl[ci]? = some r) (hr1 : r.1 = M'.1.cls) (hC : Cal v M' d' mc' ms' (.ref b :: As) h top Qr Qx) (hst : st = As.reverse ++ .ref b :: rest) (hn : As.length = n) (hW : (rest.map fun w => w.category).sum ≤ 8) (hc : cells + mc' ≤ R.cells) (hs : slots + ms' ≤ R.slots) (hc2 : cells + mc' ≤ mc) (hs2 : slots + ms' ≤ ms)
    (k : ∀ (rv : Option Value) (h' : Hp) (top' : Nat), Qr rv h' top' → J v M R (KM v Qr0 Qx0 mc ms) t0 (cells + mc') (slots + ms') h' top' (pc + 3) ls (rv.toList ++ rest))
    (kx : ∀ (E : String) (h' : Hp) (top' : Nat), Qx E h' top' → Qx0 E h' top') : J v M R (KM v Qr0 Qx0 mc ms) t0 cells slots h top pc ls st := by
  intro p l e s m args below meth c F H locs A hz hH hS hl2
  obtain ⟨w0, w5, w6⟩ := mw
  subst hst
  have hrecv : ∃ cellB : Cell, H[b]? = some cellB ∧ cellB.vm.isStatics = false ∧ s.vm.findClass M'.1.cls = some cellB.cls := by
    rw [← hr1]
    exact va_recv F.bs.1 (va_P1 (hH b _ hb).2) hci (q0 := 0) rfl
  refine J_after (vx_runV (Ts := big) (own := M.1.cls) (C := M'.1.cls) ⟨F.1, F.2.1, F.2.2.1, F.2.2.2.1, F.ht⟩ (hC l F.2.2.2.2.2.2.2.1) ⟨J_callB F hh w0 hl hR, F.ht _ w5, F.ht _ w6⟩ ⟨Rp.blind, hrecv, fun U hU hW1 => ⟨rfl, J_pre F hz hH hS hU hW1⟩⟩ rfl hn hl2.1 rfl (by show 2 * 0 + _ ≤ 8; omega) d ⟨hc, hs⟩) hS ?_ ?_
  · intro rv h' top' H' locs' hq hz' hH' hS'
    exact k rv h' top' hq p l e s m args below meth c F H' locs' A hz' hH' hS' hl2
  · intro E ce q h' top' H' locs' hq hz' hH' hS' g1 g2 g3
    exact J_out F hhM (kx E h' top' hq) hz' hH' hS' g1 g2 g3 hc2 hs2
/-- a call of a method that may throw, in a method that catches: the exception's class tells which handler -/
theorem r_callVC {M' : Md} {idx n d' mc' ms' b ci : Nat} {fs As rest : List Value} {r : vw_C} {Qr : Option Value → Hp → Nat → Prop} {Qx : String → Hp → Nat → Prop} (d : decode M.2.1 pc = .ok (.invokevirtual idx, 3)) (hl : Cond.methodLink M.1.cls idx M'.1 ∈ big) (hh : M'.2.2.2.2 = []) (mw : MwV M' n) (hR : Fits R M' d')
    (hb : h b = some (ob ci fs)) (hci : vwCl[ci]? = some r) (hr1 : r.1 = M'.1.cls) (hC : Cal v M' d' mc' ms' (.ref b :: As) h top Qr Qx) (hst : st = As.reverse ++ .ref b :: rest) (hn : As.length = n) (hW : (rest.map fun w => w.category).sum ≤ 8) (hc : cells + mc' ≤ R.cells) (hs : slots + ms' ≤ R.slots)
    (k : ∀ (rv : Option Value) (h' : Hp) (top' : Nat), Qr rv h' top' → J v M R K t0 (cells + mc') (slots + ms') h' top' (pc + 3) ls (rv.toList ++ rest))
    (kx : ∀ (E : String) (q : Addr) (h' : Hp) (top' : Nat), Qx E h' top' → ∃ (pre : List ExceptionTableEntry) (x : ExceptionTableEntry) (suf : List ExceptionTableEntry) (name : String), tableOf M.2.2.2.2 = pre ++ x :: suf ∧
      (∀ z ∈ pre, covers z pc = false ∨ (z.catchType ≠ 0 ∧ ∃ nm : String, Cond.classLink M.1.cls z.catchType nm ∈ big ∧ E ∈ exC ∧ nm ∈ exC ∧ E ≠ nm)) ∧ covers x pc = true ∧ x.catchType ≠ 0 ∧ Cond.classLink M.1.cls x.catchType name ∈ big ∧ Cond.castable E name ∈ lw_tbl ∧
      J v M R K t0 (cells + mc') (slots + ms') h' top' x.handlerPc ls [.ref q]) : J v M R K t0 cells slots h top pc ls st := by
  intro p l e s m args below meth c F H locs A hz hH hS hl2
  obtain ⟨w0, w5, w6⟩ := mw
  subst hst
  have hrecv : ∃ cellB : Cell, H[b]? = some cellB ∧ cellB.vm.isStatics = false ∧ s.vm.findClass M'.1.cls = some cellB.cls := by
    rw [← hr1]
    exact va_recv F.bs.1 (va_P1 (hH b _ hb).2) hci (q0 := 0) rfl
  refine J_after (vx_runV (Ts := big) (own := M.1.cls) (C := M'.1.cls) ⟨F.1, F.2.1, F.2.2.1, F.2.2.2.1, F.ht⟩ (hC l F.2.2.2.2.2.2.2.1) ⟨J_callB F hh w0 hl hR, F.ht _ w5, F.ht _ w6⟩ ⟨Rp.blind, hrecv, fun U hU hW1 => ⟨rfl, J_pre F hz hH hS hU hW1⟩⟩ rfl hn hl2.1 rfl (by show 2 * 0 + _ ≤ 8; omega) d ⟨hc, hs⟩) hS ?_ ?_
  · intro rv h' top' H' locs' hq hz' hH' hS'
    exact k rv h' top' hq p l e s m args below meth c F H' locs' A hz' hH' hS' hl2
  · intro E ce q h' top' H' locs' hq hz' hH' hS' g1 g2 g3
    obtain ⟨pre, x, suf, name, e1, e2, e3, e4, e5, e6, e7⟩ := kx E q h' top' hq
    have htab : c.exceptionTable.toList = pre ++ x :: suf := by
      obtain ⟨-, -, -, -, -, -, -, -, -, -, -, -, h1⟩ := F
      rw [h1, e1]
    refine vx_catch F.2.2.2.1 pre x suf htab (fun z hz => ?_) e3 e4 (F.ht _ e5) (F.nest e6 rfl) g1 g2 g3 (e7 p l e s m args below meth c F H' locs' A hz' hH' hS' hl2)
    rcases e2 z hz with q1 | ⟨q1, nm, q2, q3, q4, q5⟩
    · exact Or.inl q1
    · exact Or.inr ⟨q1, nm, F.ht _ q2, F.bs.2.1.2.2.1 E q3 nm q4 q5⟩
section Ret
variable {Qr : Option Value → Hp → Nat → Prop} {Qx : String → Hp → Nat → Prop} {mc ms : Nat}
theorem J_q {p : Program} {l : Launch} {s t : State} {m : MethodId} {args : Array Value} {meth : Method} {c : Code} (F : Fx v M t0 p l s m args meth c) {r : Option Value} (hq : Qr r h top) {H : Heap} {locs : List Loc} (hz : H.size = top) (hH : Hh v h H) (hS : va_S (Ar v) s.heap H locs) (ht : t.heap = H) : Qc v Qr args s (.returned r) t :=
  ⟨⟨r, h, top, rfl, hq, by rw [ht]; exact hz, by rw [ht]; exact hH⟩, hS.F ht⟩
theorem r_iret {x : Int32} (d : decode M.2.1 pc = .ok (.ireturn, 1)) (hr : M.2.2.2.1 = some .int) (hc : cells ≤ mc) (hs : slots ≤ ms) (hq : Qr (some (.int x)) h top) : J v M R (KM v Qr Qx mc ms) t0 cells slots h top pc ls [.int x] := by
  intro p l e s m args below meth c F H locs A hz hH hS hl
  exact W.widen hc hs (vx_ret (W.iret F.1 F.2.1 (F.2.2.2.2.2.1.trans hr) (fun t ht _ => J_q F hq hz hH hS ht) hS.2.2 d (hlocks := F.2.2.2.2.2.2.1)))
theorem r_zret {x : Int32} {ty : FieldType} (d : decode M.2.1 pc = .ok (.ireturn, 1)) (hr : M.2.2.2.1 = some ty) (hn : narrow ty (.int x) = .int x) (hc : cells ≤ mc) (hs : slots ≤ ms) (hq : Qr (some (.int x)) h top) : J v M R (KM v Qr Qx mc ms) t0 cells slots h top pc ls [.int x] := by
  intro p l e s m args below meth c F H locs A hz hH hS hl
  exact W.widen hc hs (vx_ret (W.zret F.1 F.2.1 (F.2.2.2.2.2.1.trans hr) hn (fun t ht _ => J_q F hq hz hH hS ht) hS.2.2 d (hlocks := F.2.2.2.2.2.2.1)))
theorem r_lret {x : Int64} (d : decode M.2.1 pc = .ok (.lreturn, 1)) (hr : M.2.2.2.1 = some .long) (hc : cells ≤ mc) (hs : slots ≤ ms) (hq : Qr (some (.long x)) h top) : J v M R (KM v Qr Qx mc ms) t0 cells slots h top pc ls [.long x] := by
  intro p l e s m args below meth c F H locs A hz hH hS hl
  exact W.widen hc hs (vx_ret (W.lret F.1 F.2.1 (F.2.2.2.2.2.1.trans hr) (fun t ht _ => J_q F hq hz hH hS ht) hS.2.2 d (hlocks := F.2.2.2.2.2.2.1)))
theorem r_fret {x : UInt32} (d : decode M.2.1 pc = .ok (.freturn, 1)) (hr : M.2.2.2.1 = some .float) (hc : cells ≤ mc) (hs : slots ≤ ms) (hq : Qr (some (.float x)) h top) : J v M R (KM v Qr Qx mc ms) t0 cells slots h top pc ls [.float x] := by
  intro p l e s m args below meth c F H locs A hz hH hS hl
  exact W.widen hc hs (vx_ret (W.fret F.1 F.2.1 (F.2.2.2.2.2.1.trans hr) (fun t ht _ => J_q F hq hz hH hS ht) hS.2.2 d (hlocks := F.2.2.2.2.2.2.1)))
theorem r_aret {x : Nat} {rt : FieldType} (d : decode M.2.1 pc = .ok (.areturn, 1)) (hr : M.2.2.2.1 = some rt) (hrt : (∃ n, rt = .object n) ∨ ∃ t, rt = .array t) (hc : cells ≤ mc) (hs : slots ≤ ms) (hq : Qr (some (.ref x)) h top) : J v M R (KM v Qr Qx mc ms) t0 cells slots h top pc ls [.ref x] := by
  intro p l e s m args below meth c F H locs A hz hH hS hl
  exact W.widen hc hs (vx_ret (W.aret F.1 F.2.1 (F.2.2.2.2.2.1.trans hr) hrt (Or.inr ⟨x, rfl⟩) (fun t ht _ => J_q F hq hz hH hS ht) hS.2.2 d (hlocks := F.2.2.2.2.2.2.1)))
theorem r_vret (d : decode M.2.1 pc = .ok (.return_, 1)) (hr : M.2.2.2.1 = none) (hc : cells ≤ mc) (hs : slots ≤ ms) (hq : Qr none h top) : J v M R (KM v Qr Qx mc ms) t0 cells slots h top pc ls [] := by
  intro p l e s m args below meth c F H locs A hz hH hS hl
  exact W.widen hc hs (vx_ret (W.vret F.1 F.2.1 (F.2.2.2.2.2.1.trans hr) (fun t ht _ => J_q F hq hz hH hS ht) hS.2.2 d (hlocks := F.2.2.2.2.2.2.1)))
/-- 'throw new E("text")' -/
def Xw (own : String) (ik ic : Nat) (cls : String) : Prop := Bundle.fit cls = true ∧ Cond.classLink own ik cls ∈ big ∧ Cond.initialized cls ∈ big ∧
  (∀ w ∈ vx_atS own ic cls ["java/lang/RuntimeException", "java/lang/Exception"], w ∈ lw_tbl ∧ (goodWord w || nwk w) = true) ∧ (∀ w ∈ Cond.classLink own ik cls :: Cond.initialized cls :: vx_atS own ic cls ["java/lang/RuntimeException", "java/lang/Exception"], vx_ot w = true)
theorem Xw.words {own : String} {ik ic : Nat} {cls : String} (x : Xw own ik ic cls) {p : Program} {l : Launch} {s : State} {m : MethodId} {args : Array Value} {meth : Method} {c : Code} (F : Fx v M t0 p l s m args meth c) : ∀ w ∈ vx_atS own ic cls ["java/lang/RuntimeException", "java/lang/Exception"], w.before args s = true := by
  intro w hw
  obtain ⟨h1, h2⟩ := x.2.2.2.1 w hw
  rw [Bool.or_eq_true] at h2
  rcases h2 with h2 | h2
  · exact F.ht _ (big_of h1 h2)
  · exact F.nest h1 h2
theorem ex_fit : ∀ n ∈ ["java/lang/RuntimeException", "java/lang/Exception"], Bundle.fit n = true := by decide +kernel
theorem r_throwW {ik is ic : Nat} {cls tx : String} (i : Nat) (hhM : M.2.2.2.2 = []) (x : Xw M.1.cls ik ic cls) (hst : stTab[i]? = some (M.1.cls, is, tx))
    (d0 : decode M.2.1 pc = .ok (.new ik, 3)) (d3 : decode M.2.1 (pc + 3) = .ok (.dup, 1)) (d4 : decode M.2.1 (pc + 4) = .ok (.ldc_w is, 3)) (d7 : decode M.2.1 (pc + 7) = .ok (.invokespecial ic, 3)) (d10 : decode M.2.1 (pc + 10) = .ok (.athrow, 1))
    (hf : 5 < R.frames) (hl2 : (st.map fun w => w.category).sum + 82 ≤ R.locals) (hc : cells + 1 ≤ R.cells) (hs : slots + 6 ≤ R.slots) (hc2 : cells + 1 ≤ mc) (hs2 : slots + 6 ≤ ms) (hq : ∀ top', top ≤ top' → Qx cls h top') : J v M R (KM v Qr Qx mc ms) t0 cells slots h top pc ls st := by
  intro p l e s m args below meth c F H locs A hz hH hS hl
  have htab : ∀ x ∈ c.exceptionTable.toList, covers x (pc + 10) = false := by
    obtain ⟨-, -, -, -, -, -, -, -, -, -, -, -, h1⟩ := F
    rw [h1, hhM]
    intro x hx
    cases hx
  exact vx_throwSW (names := ["java/lang/RuntimeException", "java/lang/Exception"]) F.1 F.2.1 F.2.2.2.2.2.2.2.1 F.2.2.2.1 x.1 ex_fit (F.ht _ x.2.1) (F.ht _ x.2.2.1) (F.bs.2.1.2.1 i _ hst) (x.words F) x.2.2.2.2 F.old.2.2.1 F.old.2.2.2.1 hS (hl.1.trans F.2.2.1.symm) d0 d3 d4 d7 d10 htab hf hl2 hc hs F.2.2.2.2.2.2.1
    (fun t _ h1 h2 => ⟨⟨h, t.heap.size, hq _ (by omega), rfl, fun a e9 ha => ⟨(hH a e9 ha).1, (hH a e9 ha).2.kept (h2 a (hH.lt ha))⟩⟩, Nat.le_trans hS.1 h1, fun q hq1 hq2 => (h2 q (Nat.lt_of_lt_of_le hq1 hS.1)).trans (hS.2.1 q hq1 hq2)⟩) hS.2.2 hc2 hs2
theorem r_throw {ik is ic : Nat} {cls tx : String} (i : Nat) (hhM : M.2.2.2.2 = []) (x : Xw M.1.cls ik ic cls) (hst : stTab[i]? = some (M.1.cls, is, tx))
    (d0 : decode M.2.1 pc = .ok (.new ik, 3)) (d3 : decode M.2.1 (pc + 3) = .ok (.dup, 1)) (d4 : decode M.2.1 (pc + 4) = .ok (.ldc is, 2)) (d7 : decode M.2.1 (pc + 6) = .ok (.invokespecial ic, 3)) (d10 : decode M.2.1 (pc + 9) = .ok (.athrow, 1))
    (hf : 5 < R.frames) (hl2 : (st.map fun w => w.category).sum + 82 ≤ R.locals) (hc : cells + 1 ≤ R.cells) (hs : slots + 6 ≤ R.slots) (hc2 : cells + 1 ≤ mc) (hs2 : slots + 6 ≤ ms) (hq : ∀ top', top ≤ top' → Qx cls h top') : J v M R (KM v Qr Qx mc ms) t0 cells slots h top pc ls st := by
  intro p l e s m args below meth c F H locs A hz hH hS hl
  have htab : ∀ x ∈ c.exceptionTable.toList, covers x (pc + 9) = false := by
    obtain ⟨-, -, -, -, -, -, -, -, -, -, -, -, h1⟩ := F
    rw [h1, hhM]
    intro x hx
    cases hx
  exact vx_throwS (names := ["java/lang/RuntimeException", "java/lang/Exception"]) F.1 F.2.1 F.2.2.2.2.2.2.2.1 F.2.2.2.1 x.1 ex_fit (F.ht _ x.2.1) (F.ht _ x.2.2.1) (F.bs.2.1.2.1 i _ hst) (x.words F) x.2.2.2.2 F.old.2.2.1 F.old.2.2.2.1 hS (hl.1.trans F.2.2.1.symm) d0 d3 d4 d7 d10 htab hf hl2 hc hs F.2.2.2.2.2.2.1
    (fun t _ h1 h2 => ⟨⟨h, t.heap.size, hq _ (by omega), rfl, fun a e9 ha => ⟨(hH a e9 ha).1, (hH a e9 ha).2.kept (h2 a (hH.lt ha))⟩⟩, Nat.le_trans hS.1 h1, fun q hq1 hq2 => (h2 q (Nat.lt_of_lt_of_le hq1 hS.1)).trans (hS.2.1 q hq1 hq2)⟩) hS.2.2 hc2 hs2
end Ret
/-- Math -/
theorem r_mmin {idx : Nat} {x y : Int32} (d : decode M.2.1 pc = .ok (.invokestatic idx, 3)) (w1 : Cond.methodLink M.1.cls idx Lib.Math.min.name ∈ big) (w2 : Cond.static Lib.Math.min.name ∈ big) (w3 : Cond.initialized "java/lang/Math" ∈ big) (w4 : Cond.code Lib.Math.min.name Lib.Math.min.code 2 (some .int) ∈ big) (hf : 1 ≤ R.frames) (hl2 : (st.map fun w => w.category).sum + 13 ≤ R.locals) (hc : cells ≤ R.cells) (hs : slots ≤ R.slots)
    (kk : J v M R K t0 cells slots h top (pc + 3) ls (.int (if y < x then y else x) :: st)) : J v M R K t0 cells slots h top pc ls (.int y :: .int x :: st) := by
  intro p l e s m args below meth c F H locs A hz hH hS hl
  exact va_mmin F.1 F.2.1 (F.2.2.1.trans hl.1.symm) F.2.2.2.1 (F.ht _ w1) (F.ht _ w2) (F.ht _ w3) (F.ht _ w4) hf hl2 hc hs d (kk p l e s m args below meth c F H locs A hz hH hS hl)
theorem r_mmax {idx : Nat} {x y : Int32} (d : decode M.2.1 pc = .ok (.invokestatic idx, 3)) (w1 : Cond.methodLink M.1.cls idx Lib.Math.max.name ∈ big) (w2 : Cond.static Lib.Math.max.name ∈ big) (w3 : Cond.initialized "java/lang/Math" ∈ big) (w4 : Cond.code Lib.Math.max.name Lib.Math.max.code 2 (some .int) ∈ big) (hf : 1 ≤ R.frames) (hl2 : (st.map fun w => w.category).sum + 13 ≤ R.locals) (hc : cells ≤ R.cells) (hs : slots ≤ R.slots)
    (kk : J v M R K t0 cells slots h top (pc + 3) ls (.int (if x < y then y else x) :: st)) : J v M R K t0 cells slots h top pc ls (.int y :: .int x :: st) := by
  intro p l e s m args below meth c F H locs A hz hH hS hl
  exact va_mmax F.1 F.2.1 (F.2.2.1.trans hl.1.symm) F.2.2.2.1 (F.ht _ w1) (F.ht _ w2) (F.ht _ w3) (F.ht _ w4) hf hl2 hc hs d (kk p l e s m args below meth c F H locs A hz hH hS hl)
end JC
end
section
/-! ===== the words of the tables by their places, and the methods (written by wip/whole/gen_words.py) ===== -/
theorem bigs (ws : List Cond) (ps : List Nat) (h1 : ws = ps.filterMap (fun i => lw_tbl[i]?)) (h2 : ws.all goodWord = true) : ∀ w ∈ ws, w ∈ big := fun w hw => by
  obtain ⟨h, -⟩ := goodIn_r (big := lw_tbl) ws ps h1 h2 w hw
  exact big_of h (List.all_eq_true.mp h2 w hw)
set_option maxRecDepth 20000 in
theorem inX0 : ∀ w ∈ u_ws RX0 TX0 2, w ∈ big := bigs _ [299, 301] (by decide +kernel) (by decide +kernel)
theorem clkX0 : Clk 0 RX0 TX0 2 tyX0 := ⟨rfl, inX0, tyX0_ok, nmX0⟩
set_option maxRecDepth 20000 in
theorem inX1 : ∀ w ∈ u_ws RX1 TX1 4, w ∈ big := bigs _ [335, 337, 339, 341] (by decide +kernel) (by decide +kernel)
theorem clkX1 : Clk 1 RX1 TX1 4 tyX1 := ⟨rfl, inX1, tyX1_ok, nmX1⟩
set_option maxRecDepth 20000 in
theorem inX2 : ∀ w ∈ u_ws RX2 TX2 2, w ∈ big := bigs _ [354, 356] (by decide +kernel) (by decide +kernel)
theorem clkX2 : Clk 2 RX2 TX2 2 tyX2 := ⟨rfl, inX2, tyX2_ok, nmX2⟩
set_option maxRecDepth 20000 in
theorem inX3 : ∀ w ∈ u_ws RX3 TX3 10, w ∈ big := bigs _ [167, 169, 171, 173, 175, 177, 179, 181, 183, 185] (by decide +kernel) (by decide +kernel)
theorem clkX3 : Clk 3 RX3 TX3 10 tyX3 := ⟨rfl, inX3, tyX3_ok, nmX3⟩
set_option maxRecDepth 20000 in
theorem inX4 : ∀ w ∈ u_ws RX4 TX4 3, w ∈ big := bigs _ [201, 203, 205] (by decide +kernel) (by decide +kernel)
theorem clkX4 : Clk 4 RX4 TX4 3 tyX4 := ⟨rfl, inX4, tyX4_ok, nmX4⟩
set_option maxRecDepth 20000 in
theorem inX5 : ∀ w ∈ u_ws RX5 TX5 3, w ∈ big := bigs _ [317, 319, 321] (by decide +kernel) (by decide +kernel)
theorem clkX5 : Clk 5 RX5 TX5 3 tyX5 := ⟨rfl, inX5, tyX5_ok, nmX5⟩
set_option maxRecDepth 20000 in
theorem inX6 : ∀ w ∈ u_ws RX6 TX6 13, w ∈ big := bigs _ [264, 266, 268, 270, 272, 274, 276, 278, 280, 282, 284, 286, 288] (by decide +kernel) (by decide +kernel)
theorem clkX6 : Clk 6 RX6 TX6 13 tyX6 := ⟨rfl, inX6, tyX6_ok, nmX6⟩
set_option maxRecDepth 20000 in
theorem inX7 : ∀ w ∈ u_ws RX7 TX7 4, w ∈ big := bigs _ [393, 395, 397, 399] (by decide +kernel) (by decide +kernel)
theorem clkX7 : Clk 7 RX7 TX7 4 tyX7 := ⟨rfl, inX7, tyX7_ok, nmX7⟩
set_option maxRecDepth 20000 in
theorem inX8 : ∀ w ∈ u_ws RX8 TX8 5, w ∈ big := bigs _ [370, 372, 374, 376, 378] (by decide +kernel) (by decide +kernel)
theorem clkX8 : Clk 8 RX8 TX8 5 tyX8 := ⟨rfl, inX8, tyX8_ok, nmX8⟩
set_option maxRecDepth 20000 in
theorem inX9 : ∀ w ∈ u_ws RX9 TX9 6, w ∈ big := bigs _ [231, 233, 235, 237, 239, 241] (by decide +kernel) (by decide +kernel)
theorem clkX9 : Clk 9 RX9 TX9 6 tyX9 := ⟨rfl, inX9, tyX9_ok, nmX9⟩
set_option maxRecDepth 20000 in
theorem inX10 : ∀ w ∈ u_ws RX10 TX10 12, w ∈ big := bigs _ [415, 417, 419, 421, 423, 425, 427, 429, 431, 433, 435, 437] (by decide +kernel) (by decide +kernel)
theorem clkX10 : Clk 10 RX10 TX10 12 tyX10 := ⟨rfl, inX10, tyX10_ok, nmX10⟩
set_option maxRecDepth 20000 in
theorem inX11 : ∀ w ∈ u_ws RX11 TX11 29, w ∈ big := bigs _ [1274, 1276, 1278, 1280, 1282, 1284, 1286, 1288, 1290, 1292, 1294, 1296, 1298, 1300, 1302, 1304, 1306, 1308, 1310, 1312, 1314, 1316, 1318, 1320, 1322, 1324, 1326, 1328, 1330] (by decide +kernel) (by decide +kernel)
theorem clkX11 : Clk 11 RX11 TX11 29 tyX11 := ⟨rfl, inX11, tyX11_ok, nmX11⟩
theorem kl_L_8 : Cond.classLink RL 8 "RandomWalks" ∈ big := big_at 121 (by decide +kernel) rfl
theorem ml_L_90 : Cond.methodLink RL 90 yX10_init ∈ big := big_at 123 (by decide +kernel) rfl
theorem ml_X10_1 : Cond.methodLink RX10 1 Lib.objectInit ∈ big := big_at 126 (by decide +kernel) rfl
theorem kl_X10_13 : Cond.classLink RX10 13 "RandomWalks$Graph" ∈ big := big_at 129 (by decide +kernel) rfl
theorem mn_X10_15 : Cond.methodLinkNest RX10 15 yX3_init "RandomWalks" ∈ lw_tbl := List.mem_of_getElem? (i := 131) (by decide +kernel)
theorem ml_X3_3 : Cond.methodLink RX3 3 Lib.objectInit ∈ big := big_at 134 (by decide +kernel) rfl
theorem fn_X3_40 : Cond.fieldLinkNest RX3 40 "RandomWalks" "COST_ONE" "[I" "RandomWalks" ∈ lw_tbl := List.mem_of_getElem? (i := 135) (by decide +kernel)
theorem gf_X3_9 : Gf RX3 9 3 0 := ⟨_, _, _, _, clkX3, by decide, Or.inl (big_at 137 (by decide +kernel) rfl)⟩
theorem pf_X3_9 : Pf RX3 9 3 0 (.int) := ⟨_, _, _, _, clkX3, by decide, Or.inl (big_at 137 (by decide +kernel) rfl), rfl, by decide +kernel⟩
theorem gf_X5_26 : Gf RX5 26 3 0 := ⟨_, _, _, _, clkX3, by decide, Or.inr ⟨"RandomWalks", List.mem_of_getElem? (i := 138) (by decide +kernel)⟩⟩
theorem pf_X5_26 : Pf RX5 26 3 0 (.int) := ⟨_, _, _, _, clkX3, by decide, Or.inr ⟨"RandomWalks", List.mem_of_getElem? (i := 138) (by decide +kernel)⟩, rfl, by decide +kernel⟩
theorem gf_X7_32 : Gf RX7 32 3 0 := ⟨_, _, _, _, clkX3, by decide, Or.inr ⟨"RandomWalks", List.mem_of_getElem? (i := 139) (by decide +kernel)⟩⟩
theorem pf_X7_32 : Pf RX7 32 3 0 (.int) := ⟨_, _, _, _, clkX3, by decide, Or.inr ⟨"RandomWalks", List.mem_of_getElem? (i := 139) (by decide +kernel)⟩, rfl, by decide +kernel⟩
theorem gf_X1_54 : Gf RX1 54 3 0 := ⟨_, _, _, _, clkX3, by decide, Or.inr ⟨"RandomWalks", List.mem_of_getElem? (i := 140) (by decide +kernel)⟩⟩
theorem pf_X1_54 : Pf RX1 54 3 0 (.int) := ⟨_, _, _, _, clkX3, by decide, Or.inr ⟨"RandomWalks", List.mem_of_getElem? (i := 140) (by decide +kernel)⟩, rfl, by decide +kernel⟩
theorem gf_X8_54 : Gf RX8 54 3 0 := ⟨_, _, _, _, clkX3, by decide, Or.inr ⟨"RandomWalks", List.mem_of_getElem? (i := 141) (by decide +kernel)⟩⟩
theorem pf_X8_54 : Pf RX8 54 3 0 (.int) := ⟨_, _, _, _, clkX3, by decide, Or.inr ⟨"RandomWalks", List.mem_of_getElem? (i := 141) (by decide +kernel)⟩, rfl, by decide +kernel⟩
theorem gf_X10_127 : Gf RX10 127 3 0 := ⟨_, _, _, _, clkX3, by decide, Or.inr ⟨"RandomWalks", List.mem_of_getElem? (i := 142) (by decide +kernel)⟩⟩
theorem pf_X10_127 : Pf RX10 127 3 0 (.int) := ⟨_, _, _, _, clkX3, by decide, Or.inr ⟨"RandomWalks", List.mem_of_getElem? (i := 142) (by decide +kernel)⟩, rfl, by decide +kernel⟩
theorem gf_X6_149 : Gf RX6 149 3 0 := ⟨_, _, _, _, clkX3, by decide, Or.inr ⟨"RandomWalks", List.mem_of_getElem? (i := 143) (by decide +kernel)⟩⟩
theorem pf_X6_149 : Pf RX6 149 3 0 (.int) := ⟨_, _, _, _, clkX3, by decide, Or.inr ⟨"RandomWalks", List.mem_of_getElem? (i := 143) (by decide +kernel)⟩, rfl, by decide +kernel⟩
theorem gf_X3_15 : Gf RX3 15 3 1 := ⟨_, _, _, _, clkX3, by decide, Or.inl (big_at 144 (by decide +kernel) rfl)⟩
theorem pf_X3_15 : Pf RX3 15 3 1 (.int) := ⟨_, _, _, _, clkX3, by decide, Or.inl (big_at 144 (by decide +kernel) rfl), rfl, by decide +kernel⟩
theorem gf_X0_45 : Gf RX0 45 3 1 := ⟨_, _, _, _, clkX3, by decide, Or.inr ⟨"RandomWalks", List.mem_of_getElem? (i := 145) (by decide +kernel)⟩⟩
theorem pf_X0_45 : Pf RX0 45 3 1 (.int) := ⟨_, _, _, _, clkX3, by decide, Or.inr ⟨"RandomWalks", List.mem_of_getElem? (i := 145) (by decide +kernel)⟩, rfl, by decide +kernel⟩
theorem gf_X10_124 : Gf RX10 124 3 1 := ⟨_, _, _, _, clkX3, by decide, Or.inr ⟨"RandomWalks", List.mem_of_getElem? (i := 146) (by decide +kernel)⟩⟩
theorem pf_X10_124 : Pf RX10 124 3 1 (.int) := ⟨_, _, _, _, clkX3, by decide, Or.inr ⟨"RandomWalks", List.mem_of_getElem? (i := 146) (by decide +kernel)⟩, rfl, by decide +kernel⟩
theorem gf_X3_18 : Gf RX3 18 3 2 := ⟨_, _, _, _, clkX3, by decide, Or.inl (big_at 147 (by decide +kernel) rfl)⟩
theorem pf_X3_18 : Pf RX3 18 3 2 (.int) := ⟨_, _, _, _, clkX3, by decide, Or.inl (big_at 147 (by decide +kernel) rfl), rfl, by decide +kernel⟩
theorem gf_X6_112 : Gf RX6 112 3 2 := ⟨_, _, _, _, clkX3, by decide, Or.inr ⟨"RandomWalks", List.mem_of_getElem? (i := 148) (by decide +kernel)⟩⟩
theorem pf_X6_112 : Pf RX6 112 3 2 (.int) := ⟨_, _, _, _, clkX3, by decide, Or.inr ⟨"RandomWalks", List.mem_of_getElem? (i := 148) (by decide +kernel)⟩, rfl, by decide +kernel⟩
theorem gf_X10_197 : Gf RX10 197 3 2 := ⟨_, _, _, _, clkX3, by decide, Or.inr ⟨"RandomWalks", List.mem_of_getElem? (i := 149) (by decide +kernel)⟩⟩
theorem pf_X10_197 : Pf RX10 197 3 2 (.int) := ⟨_, _, _, _, clkX3, by decide, Or.inr ⟨"RandomWalks", List.mem_of_getElem? (i := 149) (by decide +kernel)⟩, rfl, by decide +kernel⟩
theorem gf_X3_21 : Gf RX3 21 3 3 := ⟨_, _, _, _, clkX3, by decide, Or.inl (big_at 150 (by decide +kernel) rfl)⟩
theorem pf_X3_21 : Pf RX3 21 3 3 (.int) := ⟨_, _, _, _, clkX3, by decide, Or.inl (big_at 150 (by decide +kernel) rfl), rfl, by decide +kernel⟩
theorem gf_X5_45 : Gf RX5 45 3 3 := ⟨_, _, _, _, clkX3, by decide, Or.inr ⟨"RandomWalks", List.mem_of_getElem? (i := 151) (by decide +kernel)⟩⟩
theorem pf_X5_45 : Pf RX5 45 3 3 (.int) := ⟨_, _, _, _, clkX3, by decide, Or.inr ⟨"RandomWalks", List.mem_of_getElem? (i := 151) (by decide +kernel)⟩, rfl, by decide +kernel⟩
theorem gf_X10_222 : Gf RX10 222 3 3 := ⟨_, _, _, _, clkX3, by decide, Or.inr ⟨"RandomWalks", List.mem_of_getElem? (i := 152) (by decide +kernel)⟩⟩
theorem pf_X10_222 : Pf RX10 222 3 3 (.int) := ⟨_, _, _, _, clkX3, by decide, Or.inr ⟨"RandomWalks", List.mem_of_getElem? (i := 152) (by decide +kernel)⟩, rfl, by decide +kernel⟩
theorem gf_X3_24 : Gf RX3 24 3 4 := ⟨_, _, _, _, clkX3, by decide, Or.inl (big_at 153 (by decide +kernel) rfl)⟩
theorem pff_X3_24 : Pff RX3 24 3 4 (.array .int) := ⟨_, _, _, _, clkX3, by decide, big_at 153 (by decide +kernel) rfl, rfl, rfl, by decide +kernel⟩
theorem gf_X0_49 : Gf RX0 49 3 4 := ⟨_, _, _, _, clkX3, by decide, Or.inr ⟨"RandomWalks", List.mem_of_getElem? (i := 154) (by decide +kernel)⟩⟩
theorem gf_X10_135 : Gf RX10 135 3 4 := ⟨_, _, _, _, clkX3, by decide, Or.inr ⟨"RandomWalks", List.mem_of_getElem? (i := 155) (by decide +kernel)⟩⟩
theorem gf_X3_28 : Gf RX3 28 3 5 := ⟨_, _, _, _, clkX3, by decide, Or.inl (big_at 156 (by decide +kernel) rfl)⟩
theorem pff_X3_28 : Pff RX3 28 3 5 (.array .int) := ⟨_, _, _, _, clkX3, by decide, big_at 156 (by decide +kernel) rfl, rfl, rfl, by decide +kernel⟩
theorem gf_X0_52 : Gf RX0 52 3 5 := ⟨_, _, _, _, clkX3, by decide, Or.inr ⟨"RandomWalks", List.mem_of_getElem? (i := 157) (by decide +kernel)⟩⟩
theorem gf_X10_139 : Gf RX10 139 3 5 := ⟨_, _, _, _, clkX3, by decide, Or.inr ⟨"RandomWalks", List.mem_of_getElem? (i := 158) (by decide +kernel)⟩⟩
theorem gf_X3_31 : Gf RX3 31 3 6 := ⟨_, _, _, _, clkX3, by decide, Or.inl (big_at 159 (by decide +kernel) rfl)⟩
theorem pff_X3_31 : Pff RX3 31 3 6 (.array .int) := ⟨_, _, _, _, clkX3, by decide, big_at 159 (by decide +kernel) rfl, rfl, rfl, by decide +kernel⟩
theorem gf_X3_34 : Gf RX3 34 3 7 := ⟨_, _, _, _, clkX3, by decide, Or.inl (big_at 160 (by decide +kernel) rfl)⟩
theorem pff_X3_34 : Pff RX3 34 3 7 (.array .int) := ⟨_, _, _, _, clkX3, by decide, big_at 160 (by decide +kernel) rfl, rfl, rfl, by decide +kernel⟩
theorem gf_X5_30 : Gf RX5 30 3 7 := ⟨_, _, _, _, clkX3, by decide, Or.inr ⟨"RandomWalks", List.mem_of_getElem? (i := 161) (by decide +kernel)⟩⟩
theorem gf_X10_219 : Gf RX10 219 3 7 := ⟨_, _, _, _, clkX3, by decide, Or.inr ⟨"RandomWalks", List.mem_of_getElem? (i := 162) (by decide +kernel)⟩⟩
theorem gf_X3_37 : Gf RX3 37 3 8 := ⟨_, _, _, _, clkX3, by decide, Or.inl (big_at 163 (by decide +kernel) rfl)⟩
theorem pff_X3_37 : Pff RX3 37 3 8 (.array .int) := ⟨_, _, _, _, clkX3, by decide, big_at 163 (by decide +kernel) rfl, rfl, rfl, by decide +kernel⟩
theorem gf_X3_43 : Gf RX3 43 3 9 := ⟨_, _, _, _, clkX3, by decide, Or.inl (big_at 164 (by decide +kernel) rfl)⟩
theorem pf_X3_43 : Pf RX3 43 3 9 (.array .int) := ⟨_, _, _, _, clkX3, by decide, Or.inl (big_at 164 (by decide +kernel) rfl), rfl, by decide +kernel⟩
theorem gf_X0_18 : Gf RX0 18 3 9 := ⟨_, _, _, _, clkX3, by decide, Or.inr ⟨"RandomWalks", List.mem_of_getElem? (i := 165) (by decide +kernel)⟩⟩
theorem pf_X0_18 : Pf RX0 18 3 9 (.array .int) := ⟨_, _, _, _, clkX3, by decide, Or.inr ⟨"RandomWalks", List.mem_of_getElem? (i := 165) (by decide +kernel)⟩, rfl, by decide +kernel⟩
theorem gf_X6_138 : Gf RX6 138 3 9 := ⟨_, _, _, _, clkX3, by decide, Or.inr ⟨"RandomWalks", List.mem_of_getElem? (i := 166) (by decide +kernel)⟩⟩
theorem pf_X6_138 : Pf RX6 138 3 9 (.array .int) := ⟨_, _, _, _, clkX3, by decide, Or.inr ⟨"RandomWalks", List.mem_of_getElem? (i := 166) (by decide +kernel)⟩, rfl, by decide +kernel⟩
theorem ac_int : Cond.arrayClass .int ∈ big := big_at 188 (by decide +kernel) rfl
theorem kl_X10_20 : Cond.classLink RX10 20 "RandomWalks$History" ∈ big := big_at 189 (by decide +kernel) rfl
theorem ml_X10_22 : Cond.methodLink RX10 22 yX4_init ∈ big := big_at 191 (by decide +kernel) rfl
theorem ml_X4_3 : Cond.methodLink RX4 3 Lib.objectInit ∈ big := big_at 194 (by decide +kernel) rfl
theorem kl_X4_9 : Cond.classLink RX4 9 "RandomWalks$Graph" ∈ big := big_at 195 (by decide +kernel) rfl
theorem mn_X4_24 : Cond.methodLinkNest RX4 24 yX3_init "RandomWalks" ∈ lw_tbl := List.mem_of_getElem? (i := 197) (by decide +kernel)
theorem gf_X4_11 : Gf RX4 11 4 0 := ⟨_, _, _, _, clkX4, by decide, Or.inl (big_at 198 (by decide +kernel) rfl)⟩
theorem pff_X4_11 : Pff RX4 11 4 0 (.array (.object "RandomWalks$Graph")) := ⟨_, _, _, _, clkX4, by decide, big_at 198 (by decide +kernel) rfl, rfl, rfl, by decide +kernel⟩
theorem gf_X4_17 : Gf RX4 17 4 1 := ⟨_, _, _, _, clkX4, by decide, Or.inl (big_at 199 (by decide +kernel) rfl)⟩
theorem pf_X4_17 : Pf RX4 17 4 1 (.int) := ⟨_, _, _, _, clkX4, by decide, Or.inl (big_at 199 (by decide +kernel) rfl), rfl, by decide +kernel⟩
theorem gf_X4_21 : Gf RX4 21 4 2 := ⟨_, _, _, _, clkX4, by decide, Or.inl (big_at 200 (by decide +kernel) rfl)⟩
theorem pf_X4_21 : Pf RX4 21 4 2 (.int) := ⟨_, _, _, _, clkX4, by decide, Or.inl (big_at 200 (by decide +kernel) rfl), rfl, by decide +kernel⟩
theorem kl_X10_27 : Cond.classLink RX10 27 "RandomWalks$Reader" ∈ big := big_at 208 (by decide +kernel) rfl
theorem mn_X10_29 : Cond.methodLinkNest RX10 29 yX6_init "RandomWalks" ∈ lw_tbl := List.mem_of_getElem? (i := 210) (by decide +kernel)
theorem ml_X6_3 : Cond.methodLink RX6 3 Lib.objectInit ∈ big := big_at 213 (by decide +kernel) rfl
theorem kl_X6_9 : Cond.classLink RX6 9 "RandomWalks$Tokens" ∈ big := big_at 214 (by decide +kernel) rfl
theorem mn_X6_11 : Cond.methodLinkNest RX6 11 yX9_init "RandomWalks" ∈ lw_tbl := List.mem_of_getElem? (i := 216) (by decide +kernel)
theorem ml_X9_3 : Cond.methodLink RX9 3 Lib.objectInit ∈ big := big_at 219 (by decide +kernel) rfl
theorem gf_X9_9 : Gf RX9 9 9 0 := ⟨_, _, _, _, clkX9, by decide, Or.inl (big_at 220 (by decide +kernel) rfl)⟩
theorem pff_X9_9 : Pff RX9 9 9 0 (.array .byte) := ⟨_, _, _, _, clkX9, by decide, big_at 220 (by decide +kernel) rfl, rfl, rfl, by decide +kernel⟩
theorem gf_X9_15 : Gf RX9 15 9 1 := ⟨_, _, _, _, clkX9, by decide, Or.inl (big_at 221 (by decide +kernel) rfl)⟩
theorem pf_X9_15 : Pf RX9 15 9 1 (.int) := ⟨_, _, _, _, clkX9, by decide, Or.inl (big_at 221 (by decide +kernel) rfl), rfl, by decide +kernel⟩
theorem gf_X10_87 : Gf RX10 87 9 1 := ⟨_, _, _, _, clkX9, by decide, Or.inr ⟨"RandomWalks", List.mem_of_getElem? (i := 222) (by decide +kernel)⟩⟩
theorem pf_X10_87 : Pf RX10 87 9 1 (.int) := ⟨_, _, _, _, clkX9, by decide, Or.inr ⟨"RandomWalks", List.mem_of_getElem? (i := 222) (by decide +kernel)⟩, rfl, by decide +kernel⟩
theorem gf_X9_19 : Gf RX9 19 9 2 := ⟨_, _, _, _, clkX9, by decide, Or.inl (big_at 223 (by decide +kernel) rfl)⟩
theorem pff_X9_19 : Pff RX9 19 9 2 (.array .int) := ⟨_, _, _, _, clkX9, by decide, big_at 223 (by decide +kernel) rfl, rfl, rfl, by decide +kernel⟩
theorem gf_X6_152 : Gf RX6 152 9 2 := ⟨_, _, _, _, clkX9, by decide, Or.inr ⟨"RandomWalks", List.mem_of_getElem? (i := 224) (by decide +kernel)⟩⟩
theorem gf_X9_23 : Gf RX9 23 9 3 := ⟨_, _, _, _, clkX9, by decide, Or.inl (big_at 225 (by decide +kernel) rfl)⟩
theorem pff_X9_23 : Pff RX9 23 9 3 (.array .int) := ⟨_, _, _, _, clkX9, by decide, big_at 225 (by decide +kernel) rfl, rfl, rfl, by decide +kernel⟩
theorem gf_X6_155 : Gf RX6 155 9 3 := ⟨_, _, _, _, clkX9, by decide, Or.inr ⟨"RandomWalks", List.mem_of_getElem? (i := 226) (by decide +kernel)⟩⟩
theorem gf_X9_26 : Gf RX9 26 9 4 := ⟨_, _, _, _, clkX9, by decide, Or.inl (big_at 227 (by decide +kernel) rfl)⟩
theorem pff_X9_26 : Pff RX9 26 9 4 (.array .int) := ⟨_, _, _, _, clkX9, by decide, big_at 227 (by decide +kernel) rfl, rfl, rfl, by decide +kernel⟩
theorem gf_X6_158 : Gf RX6 158 9 4 := ⟨_, _, _, _, clkX9, by decide, Or.inr ⟨"RandomWalks", List.mem_of_getElem? (i := 228) (by decide +kernel)⟩⟩
theorem gf_X9_29 : Gf RX9 29 9 5 := ⟨_, _, _, _, clkX9, by decide, Or.inl (big_at 229 (by decide +kernel) rfl)⟩
theorem pf_X9_29 : Pf RX9 29 9 5 (.int) := ⟨_, _, _, _, clkX9, by decide, Or.inl (big_at 229 (by decide +kernel) rfl), rfl, by decide +kernel⟩
theorem gf_X6_80 : Gf RX6 80 9 5 := ⟨_, _, _, _, clkX9, by decide, Or.inr ⟨"RandomWalks", List.mem_of_getElem? (i := 230) (by decide +kernel)⟩⟩
theorem pf_X6_80 : Pf RX6 80 9 5 (.int) := ⟨_, _, _, _, clkX9, by decide, Or.inr ⟨"RandomWalks", List.mem_of_getElem? (i := 230) (by decide +kernel)⟩, rfl, by decide +kernel⟩
theorem ac_byte : Cond.arrayClass .byte ∈ big := big_at 244 (by decide +kernel) rfl
theorem kl_X6_18 : Cond.classLink RX6 18 "RandomWalks$Graph" ∈ big := big_at 245 (by decide +kernel) rfl
theorem mn_X6_20 : Cond.methodLinkNest RX6 20 yX3_init "RandomWalks" ∈ lw_tbl := List.mem_of_getElem? (i := 246) (by decide +kernel)
theorem gf_X6_12 : Gf RX6 12 6 0 := ⟨_, _, _, _, clkX6, by decide, Or.inl (big_at 247 (by decide +kernel) rfl)⟩
theorem pff_X6_12 : Pff RX6 12 6 0 (.object "RandomWalks$Tokens") := ⟨_, _, _, _, clkX6, by decide, big_at 247 (by decide +kernel) rfl, rfl, rfl, by decide +kernel⟩
theorem gf_X10_83 : Gf RX10 83 6 0 := ⟨_, _, _, _, clkX6, by decide, Or.inr ⟨"RandomWalks", List.mem_of_getElem? (i := 248) (by decide +kernel)⟩⟩
theorem gf_X6_21 : Gf RX6 21 6 1 := ⟨_, _, _, _, clkX6, by decide, Or.inl (big_at 249 (by decide +kernel) rfl)⟩
theorem pff_X6_21 : Pff RX6 21 6 1 (.object "RandomWalks$Graph") := ⟨_, _, _, _, clkX6, by decide, big_at 249 (by decide +kernel) rfl, rfl, rfl, by decide +kernel⟩
theorem gf_X10_118 : Gf RX10 118 6 1 := ⟨_, _, _, _, clkX6, by decide, Or.inr ⟨"RandomWalks", List.mem_of_getElem? (i := 250) (by decide +kernel)⟩⟩
theorem gf_X6_25 : Gf RX6 25 6 2 := ⟨_, _, _, _, clkX6, by decide, Or.inl (big_at 251 (by decide +kernel) rfl)⟩
theorem pf_X6_25 : Pf RX6 25 6 2 (.int) := ⟨_, _, _, _, clkX6, by decide, Or.inl (big_at 251 (by decide +kernel) rfl), rfl, by decide +kernel⟩
theorem gf_X10_111 : Gf RX10 111 6 2 := ⟨_, _, _, _, clkX6, by decide, Or.inr ⟨"RandomWalks", List.mem_of_getElem? (i := 252) (by decide +kernel)⟩⟩
theorem pf_X10_111 : Pf RX10 111 6 2 (.int) := ⟨_, _, _, _, clkX6, by decide, Or.inr ⟨"RandomWalks", List.mem_of_getElem? (i := 252) (by decide +kernel)⟩, rfl, by decide +kernel⟩
theorem gf_X6_29 : Gf RX6 29 6 3 := ⟨_, _, _, _, clkX6, by decide, Or.inl (big_at 253 (by decide +kernel) rfl)⟩
theorem pf_X6_29 : Pf RX6 29 6 3 (.int) := ⟨_, _, _, _, clkX6, by decide, Or.inl (big_at 253 (by decide +kernel) rfl), rfl, by decide +kernel⟩
theorem gf_X10_110 : Gf RX10 110 6 3 := ⟨_, _, _, _, clkX6, by decide, Or.inr ⟨"RandomWalks", List.mem_of_getElem? (i := 254) (by decide +kernel)⟩⟩
theorem pf_X10_110 : Pf RX10 110 6 3 (.int) := ⟨_, _, _, _, clkX6, by decide, Or.inr ⟨"RandomWalks", List.mem_of_getElem? (i := 254) (by decide +kernel)⟩, rfl, by decide +kernel⟩
theorem gf_X6_32 : Gf RX6 32 6 4 := ⟨_, _, _, _, clkX6, by decide, Or.inl (big_at 255 (by decide +kernel) rfl)⟩
theorem pf_X6_32 : Pf RX6 32 6 4 (.int) := ⟨_, _, _, _, clkX6, by decide, Or.inl (big_at 255 (by decide +kernel) rfl), rfl, by decide +kernel⟩
theorem gf_X6_35 : Gf RX6 35 6 5 := ⟨_, _, _, _, clkX6, by decide, Or.inl (big_at 256 (by decide +kernel) rfl)⟩
theorem pf_X6_35 : Pf RX6 35 6 5 (.int) := ⟨_, _, _, _, clkX6, by decide, Or.inl (big_at 256 (by decide +kernel) rfl), rfl, by decide +kernel⟩
theorem gf_X6_38 : Gf RX6 38 6 6 := ⟨_, _, _, _, clkX6, by decide, Or.inl (big_at 257 (by decide +kernel) rfl)⟩
theorem pf_X6_38 : Pf RX6 38 6 6 (.int) := ⟨_, _, _, _, clkX6, by decide, Or.inl (big_at 257 (by decide +kernel) rfl), rfl, by decide +kernel⟩
theorem gf_X6_41 : Gf RX6 41 6 7 := ⟨_, _, _, _, clkX6, by decide, Or.inl (big_at 258 (by decide +kernel) rfl)⟩
theorem pf_X6_41 : Pf RX6 41 6 7 (.int) := ⟨_, _, _, _, clkX6, by decide, Or.inl (big_at 258 (by decide +kernel) rfl), rfl, by decide +kernel⟩
theorem gf_X6_44 : Gf RX6 44 6 8 := ⟨_, _, _, _, clkX6, by decide, Or.inl (big_at 259 (by decide +kernel) rfl)⟩
theorem pf_X6_44 : Pf RX6 44 6 8 (.boolean) := ⟨_, _, _, _, clkX6, by decide, Or.inl (big_at 259 (by decide +kernel) rfl), rfl, by decide +kernel⟩
theorem gf_X6_48 : Gf RX6 48 6 9 := ⟨_, _, _, _, clkX6, by decide, Or.inl (big_at 260 (by decide +kernel) rfl)⟩
theorem pff_X6_48 : Pff RX6 48 6 9 (.array .int) := ⟨_, _, _, _, clkX6, by decide, big_at 260 (by decide +kernel) rfl, rfl, rfl, by decide +kernel⟩
theorem gf_X6_52 : Gf RX6 52 6 10 := ⟨_, _, _, _, clkX6, by decide, Or.inl (big_at 261 (by decide +kernel) rfl)⟩
theorem pf_X6_52 : Pf RX6 52 6 10 (.int) := ⟨_, _, _, _, clkX6, by decide, Or.inl (big_at 261 (by decide +kernel) rfl), rfl, by decide +kernel⟩
theorem gf_X6_55 : Gf RX6 55 6 11 := ⟨_, _, _, _, clkX6, by decide, Or.inl (big_at 262 (by decide +kernel) rfl)⟩
theorem pff_X6_55 : Pff RX6 55 6 11 (.array .int) := ⟨_, _, _, _, clkX6, by decide, big_at 262 (by decide +kernel) rfl, rfl, rfl, by decide +kernel⟩
theorem gf_X6_58 : Gf RX6 58 6 12 := ⟨_, _, _, _, clkX6, by decide, Or.inl (big_at 263 (by decide +kernel) rfl)⟩
theorem pf_X6_58 : Pf RX6 58 6 12 (.int) := ⟨_, _, _, _, clkX6, by decide, Or.inl (big_at 263 (by decide +kernel) rfl), rfl, by decide +kernel⟩
theorem kl_X10_34 : Cond.classLink RX10 34 "RandomWalks$Costs" ∈ big := big_at 291 (by decide +kernel) rfl
theorem mn_X10_36 : Cond.methodLinkNest RX10 36 yX0_init "RandomWalks" ∈ lw_tbl := List.mem_of_getElem? (i := 293) (by decide +kernel)
theorem ml_X0_3 : Cond.methodLink RX0 3 Lib.objectInit ∈ big := big_at 296 (by decide +kernel) rfl
theorem gf_X0_9 : Gf RX0 9 0 0 := ⟨_, _, _, _, clkX0, by decide, Or.inl (big_at 297 (by decide +kernel) rfl)⟩
theorem pff_X0_9 : Pff RX0 9 0 0 (.array .int) := ⟨_, _, _, _, clkX0, by decide, big_at 297 (by decide +kernel) rfl, rfl, rfl, by decide +kernel⟩
theorem gf_X0_15 : Gf RX0 15 0 1 := ⟨_, _, _, _, clkX0, by decide, Or.inl (big_at 298 (by decide +kernel) rfl)⟩
theorem pff_X0_15 : Pff RX0 15 0 1 (.array .int) := ⟨_, _, _, _, clkX0, by decide, big_at 298 (by decide +kernel) rfl, rfl, rfl, by decide +kernel⟩
theorem kl_X10_41 : Cond.classLink RX10 41 "RandomWalks$Partition" ∈ big := big_at 304 (by decide +kernel) rfl
theorem mn_X10_43 : Cond.methodLinkNest RX10 43 yX5_init "RandomWalks" ∈ lw_tbl := List.mem_of_getElem? (i := 306) (by decide +kernel)
theorem ml_X5_3 : Cond.methodLink RX5 3 Lib.objectInit ∈ big := big_at 309 (by decide +kernel) rfl
theorem kl_X5_9 : Cond.classLink RX5 9 "RandomWalks$Graph" ∈ big := big_at 310 (by decide +kernel) rfl
theorem mn_X5_11 : Cond.methodLinkNest RX5 11 yX3_init "RandomWalks" ∈ lw_tbl := List.mem_of_getElem? (i := 311) (by decide +kernel)
theorem gf_X5_12 : Gf RX5 12 5 0 := ⟨_, _, _, _, clkX5, by decide, Or.inl (big_at 312 (by decide +kernel) rfl)⟩
theorem pff_X5_12 : Pff RX5 12 5 0 (.object "RandomWalks$Graph") := ⟨_, _, _, _, clkX5, by decide, big_at 312 (by decide +kernel) rfl, rfl, rfl, by decide +kernel⟩
theorem gf_X10_241 : Gf RX10 241 5 0 := ⟨_, _, _, _, clkX5, by decide, Or.inr ⟨"RandomWalks", List.mem_of_getElem? (i := 313) (by decide +kernel)⟩⟩
theorem gf_X5_18 : Gf RX5 18 5 1 := ⟨_, _, _, _, clkX5, by decide, Or.inl (big_at 314 (by decide +kernel) rfl)⟩
theorem pff_X5_18 : Pff RX5 18 5 1 (.array .long) := ⟨_, _, _, _, clkX5, by decide, big_at 314 (by decide +kernel) rfl, rfl, rfl, by decide +kernel⟩
theorem gf_X10_253 : Gf RX10 253 5 1 := ⟨_, _, _, _, clkX5, by decide, Or.inr ⟨"RandomWalks", List.mem_of_getElem? (i := 315) (by decide +kernel)⟩⟩
theorem gf_X5_22 : Gf RX5 22 5 2 := ⟨_, _, _, _, clkX5, by decide, Or.inl (big_at 316 (by decide +kernel) rfl)⟩
theorem pff_X5_22 : Pff RX5 22 5 2 (.array .int) := ⟨_, _, _, _, clkX5, by decide, big_at 316 (by decide +kernel) rfl, rfl, rfl, by decide +kernel⟩
theorem ac_long : Cond.arrayClass .long ∈ big := big_at 324 (by decide +kernel) rfl
theorem kl_X10_48 : Cond.classLink RX10 48 "RandomWalks$Equations" ∈ big := big_at 325 (by decide +kernel) rfl
theorem mn_X10_50 : Cond.methodLinkNest RX10 50 yX1_init "RandomWalks" ∈ lw_tbl := List.mem_of_getElem? (i := 327) (by decide +kernel)
theorem ml_X1_3 : Cond.methodLink RX1 3 Lib.objectInit ∈ big := big_at 330 (by decide +kernel) rfl
theorem gf_X1_11 : Gf RX1 11 1 0 := ⟨_, _, _, _, clkX1, by decide, Or.inl (big_at 331 (by decide +kernel) rfl)⟩
theorem pff_X1_11 : Pff RX1 11 1 0 (.array .long) := ⟨_, _, _, _, clkX1, by decide, big_at 331 (by decide +kernel) rfl, rfl, rfl, by decide +kernel⟩
theorem gf_X1_15 : Gf RX1 15 1 1 := ⟨_, _, _, _, clkX1, by decide, Or.inl (big_at 332 (by decide +kernel) rfl)⟩
theorem pff_X1_15 : Pff RX1 15 1 1 (.array .int) := ⟨_, _, _, _, clkX1, by decide, big_at 332 (by decide +kernel) rfl, rfl, rfl, by decide +kernel⟩
theorem gf_X1_19 : Gf RX1 19 1 2 := ⟨_, _, _, _, clkX1, by decide, Or.inl (big_at 333 (by decide +kernel) rfl)⟩
theorem pff_X1_19 : Pff RX1 19 1 2 (.array .long) := ⟨_, _, _, _, clkX1, by decide, big_at 333 (by decide +kernel) rfl, rfl, rfl, by decide +kernel⟩
theorem gf_X1_22 : Gf RX1 22 1 3 := ⟨_, _, _, _, clkX1, by decide, Or.inl (big_at 334 (by decide +kernel) rfl)⟩
theorem pf_X1_22 : Pf RX1 22 1 3 (.int) := ⟨_, _, _, _, clkX1, by decide, Or.inl (big_at 334 (by decide +kernel) rfl), rfl, by decide +kernel⟩
theorem kl_X10_55 : Cond.classLink RX10 55 "RandomWalks$Fraction" ∈ big := big_at 344 (by decide +kernel) rfl
theorem mn_X10_57 : Cond.methodLinkNest RX10 57 yX2_init "RandomWalks" ∈ lw_tbl := List.mem_of_getElem? (i := 346) (by decide +kernel)
theorem ml_X2_1 : Cond.methodLink RX2 1 Lib.objectInit ∈ big := big_at 349 (by decide +kernel) rfl
theorem gf_X2_7 : Gf RX2 7 2 0 := ⟨_, _, _, _, clkX2, by decide, Or.inl (big_at 350 (by decide +kernel) rfl)⟩
theorem pf_X2_7 : Pf RX2 7 2 0 (.long) := ⟨_, _, _, _, clkX2, by decide, Or.inl (big_at 350 (by decide +kernel) rfl), rfl, by decide +kernel⟩
theorem gf_X7_52 : Gf RX7 52 2 0 := ⟨_, _, _, _, clkX2, by decide, Or.inr ⟨"RandomWalks", List.mem_of_getElem? (i := 351) (by decide +kernel)⟩⟩
theorem pf_X7_52 : Pf RX7 52 2 0 (.long) := ⟨_, _, _, _, clkX2, by decide, Or.inr ⟨"RandomWalks", List.mem_of_getElem? (i := 351) (by decide +kernel)⟩, rfl, by decide +kernel⟩
theorem gf_X2_13 : Gf RX2 13 2 1 := ⟨_, _, _, _, clkX2, by decide, Or.inl (big_at 352 (by decide +kernel) rfl)⟩
theorem pf_X2_13 : Pf RX2 13 2 1 (.long) := ⟨_, _, _, _, clkX2, by decide, Or.inl (big_at 352 (by decide +kernel) rfl), rfl, by decide +kernel⟩
theorem gf_X7_56 : Gf RX7 56 2 1 := ⟨_, _, _, _, clkX2, by decide, Or.inr ⟨"RandomWalks", List.mem_of_getElem? (i := 353) (by decide +kernel)⟩⟩
theorem pf_X7_56 : Pf RX7 56 2 1 (.long) := ⟨_, _, _, _, clkX2, by decide, Or.inr ⟨"RandomWalks", List.mem_of_getElem? (i := 353) (by decide +kernel)⟩, rfl, by decide +kernel⟩
theorem kl_X10_69 : Cond.classLink RX10 69 "RandomWalks$Stroll" ∈ big := big_at 359 (by decide +kernel) rfl
theorem mn_X10_71 : Cond.methodLinkNest RX10 71 yX8_init "RandomWalks" ∈ lw_tbl := List.mem_of_getElem? (i := 361) (by decide +kernel)
theorem ml_X8_1 : Cond.methodLink RX8 1 Lib.objectInit ∈ big := big_at 364 (by decide +kernel) rfl
theorem gf_X8_7 : Gf RX8 7 8 0 := ⟨_, _, _, _, clkX8, by decide, Or.inl (big_at 365 (by decide +kernel) rfl)⟩
theorem pf_X8_7 : Pf RX8 7 8 0 (.long) := ⟨_, _, _, _, clkX8, by decide, Or.inl (big_at 365 (by decide +kernel) rfl), rfl, by decide +kernel⟩
theorem gf_X8_13 : Gf RX8 13 8 1 := ⟨_, _, _, _, clkX8, by decide, Or.inl (big_at 366 (by decide +kernel) rfl)⟩
theorem pf_X8_13 : Pf RX8 13 8 1 (.int) := ⟨_, _, _, _, clkX8, by decide, Or.inl (big_at 366 (by decide +kernel) rfl), rfl, by decide +kernel⟩
theorem gf_X8_17 : Gf RX8 17 8 2 := ⟨_, _, _, _, clkX8, by decide, Or.inl (big_at 367 (by decide +kernel) rfl)⟩
theorem pf_X8_17 : Pf RX8 17 8 2 (.int) := ⟨_, _, _, _, clkX8, by decide, Or.inl (big_at 367 (by decide +kernel) rfl), rfl, by decide +kernel⟩
theorem gf_X8_20 : Gf RX8 20 8 3 := ⟨_, _, _, _, clkX8, by decide, Or.inl (big_at 368 (by decide +kernel) rfl)⟩
theorem pf_X8_20 : Pf RX8 20 8 3 (.int) := ⟨_, _, _, _, clkX8, by decide, Or.inl (big_at 368 (by decide +kernel) rfl), rfl, by decide +kernel⟩
theorem gf_X8_23 : Gf RX8 23 8 4 := ⟨_, _, _, _, clkX8, by decide, Or.inl (big_at 369 (by decide +kernel) rfl)⟩
theorem pf_X8_23 : Pf RX8 23 8 4 (.int) := ⟨_, _, _, _, clkX8, by decide, Or.inl (big_at 369 (by decide +kernel) rfl), rfl, by decide +kernel⟩
theorem kl_X10_76 : Cond.classLink RX10 76 "RandomWalks$Spread" ∈ big := big_at 381 (by decide +kernel) rfl
theorem mn_X10_78 : Cond.methodLinkNest RX10 78 yX7_init "RandomWalks" ∈ lw_tbl := List.mem_of_getElem? (i := 383) (by decide +kernel)
theorem ml_X7_3 : Cond.methodLink RX7 3 Lib.objectInit ∈ big := big_at 386 (by decide +kernel) rfl
theorem kl_X7_21 : Cond.classLink RX7 21 "RandomWalks$Fraction" ∈ big := big_at 387 (by decide +kernel) rfl
theorem mn_X7_23 : Cond.methodLinkNest RX7 23 yX2_init "RandomWalks" ∈ lw_tbl := List.mem_of_getElem? (i := 388) (by decide +kernel)
theorem gf_X7_9 : Gf RX7 9 7 0 := ⟨_, _, _, _, clkX7, by decide, Or.inl (big_at 389 (by decide +kernel) rfl)⟩
theorem pff_X7_9 : Pff RX7 9 7 0 (.array .float) := ⟨_, _, _, _, clkX7, by decide, big_at 389 (by decide +kernel) rfl, rfl, rfl, by decide +kernel⟩
theorem gf_X7_15 : Gf RX7 15 7 1 := ⟨_, _, _, _, clkX7, by decide, Or.inl (big_at 390 (by decide +kernel) rfl)⟩
theorem pff_X7_15 : Pff RX7 15 7 1 (.array .float) := ⟨_, _, _, _, clkX7, by decide, big_at 390 (by decide +kernel) rfl, rfl, rfl, by decide +kernel⟩
theorem gf_X7_18 : Gf RX7 18 7 2 := ⟨_, _, _, _, clkX7, by decide, Or.inl (big_at 391 (by decide +kernel) rfl)⟩
theorem pff_X7_18 : Pff RX7 18 7 2 (.array .float) := ⟨_, _, _, _, clkX7, by decide, big_at 391 (by decide +kernel) rfl, rfl, rfl, by decide +kernel⟩
theorem gf_X7_24 : Gf RX7 24 7 3 := ⟨_, _, _, _, clkX7, by decide, Or.inl (big_at 392 (by decide +kernel) rfl)⟩
theorem pff_X7_24 : Pff RX7 24 7 3 (.object "RandomWalks$Fraction") := ⟨_, _, _, _, clkX7, by decide, big_at 392 (by decide +kernel) rfl, rfl, rfl, by decide +kernel⟩
theorem ac_float : Cond.arrayClass .float ∈ big := big_at 402 (by decide +kernel) rfl
theorem gf_X10_7 : Gf RX10 7 10 0 := ⟨_, _, _, _, clkX10, by decide, Or.inl (big_at 403 (by decide +kernel) rfl)⟩
theorem pf_X10_7 : Pf RX10 7 10 0 (.int) := ⟨_, _, _, _, clkX10, by decide, Or.inl (big_at 403 (by decide +kernel) rfl), rfl, by decide +kernel⟩
theorem gf_X10_16 : Gf RX10 16 10 1 := ⟨_, _, _, _, clkX10, by decide, Or.inl (big_at 404 (by decide +kernel) rfl)⟩
theorem pff_X10_16 : Pff RX10 16 10 1 (.object "RandomWalks$Graph") := ⟨_, _, _, _, clkX10, by decide, big_at 404 (by decide +kernel) rfl, rfl, rfl, by decide +kernel⟩
theorem gf_X10_23 : Gf RX10 23 10 2 := ⟨_, _, _, _, clkX10, by decide, Or.inl (big_at 405 (by decide +kernel) rfl)⟩
theorem pff_X10_23 : Pff RX10 23 10 2 (.object "RandomWalks$History") := ⟨_, _, _, _, clkX10, by decide, big_at 405 (by decide +kernel) rfl, rfl, rfl, by decide +kernel⟩
theorem gf_X10_30 : Gf RX10 30 10 3 := ⟨_, _, _, _, clkX10, by decide, Or.inl (big_at 406 (by decide +kernel) rfl)⟩
theorem pff_X10_30 : Pff RX10 30 10 3 (.object "RandomWalks$Reader") := ⟨_, _, _, _, clkX10, by decide, big_at 406 (by decide +kernel) rfl, rfl, rfl, by decide +kernel⟩
theorem gf_X10_37 : Gf RX10 37 10 4 := ⟨_, _, _, _, clkX10, by decide, Or.inl (big_at 407 (by decide +kernel) rfl)⟩
theorem pff_X10_37 : Pff RX10 37 10 4 (.object "RandomWalks$Costs") := ⟨_, _, _, _, clkX10, by decide, big_at 407 (by decide +kernel) rfl, rfl, rfl, by decide +kernel⟩
theorem gf_X10_44 : Gf RX10 44 10 5 := ⟨_, _, _, _, clkX10, by decide, Or.inl (big_at 408 (by decide +kernel) rfl)⟩
theorem pff_X10_44 : Pff RX10 44 10 5 (.object "RandomWalks$Partition") := ⟨_, _, _, _, clkX10, by decide, big_at 408 (by decide +kernel) rfl, rfl, rfl, by decide +kernel⟩
theorem gf_X10_51 : Gf RX10 51 10 6 := ⟨_, _, _, _, clkX10, by decide, Or.inl (big_at 409 (by decide +kernel) rfl)⟩
theorem pff_X10_51 : Pff RX10 51 10 6 (.object "RandomWalks$Equations") := ⟨_, _, _, _, clkX10, by decide, big_at 409 (by decide +kernel) rfl, rfl, rfl, by decide +kernel⟩
theorem gf_X10_58 : Gf RX10 58 10 7 := ⟨_, _, _, _, clkX10, by decide, Or.inl (big_at 410 (by decide +kernel) rfl)⟩
theorem pff_X10_58 : Pff RX10 58 10 7 (.object "RandomWalks$Fraction") := ⟨_, _, _, _, clkX10, by decide, big_at 410 (by decide +kernel) rfl, rfl, rfl, by decide +kernel⟩
theorem gf_X10_62 : Gf RX10 62 10 8 := ⟨_, _, _, _, clkX10, by decide, Or.inl (big_at 411 (by decide +kernel) rfl)⟩
theorem pff_X10_62 : Pff RX10 62 10 8 (.object "RandomWalks$Fraction") := ⟨_, _, _, _, clkX10, by decide, big_at 411 (by decide +kernel) rfl, rfl, rfl, by decide +kernel⟩
theorem gf_X10_65 : Gf RX10 65 10 9 := ⟨_, _, _, _, clkX10, by decide, Or.inl (big_at 412 (by decide +kernel) rfl)⟩
theorem pff_X10_65 : Pff RX10 65 10 9 (.array .long) := ⟨_, _, _, _, clkX10, by decide, big_at 412 (by decide +kernel) rfl, rfl, rfl, by decide +kernel⟩
theorem gf_X10_72 : Gf RX10 72 10 10 := ⟨_, _, _, _, clkX10, by decide, Or.inl (big_at 413 (by decide +kernel) rfl)⟩
theorem pff_X10_72 : Pff RX10 72 10 10 (.object "RandomWalks$Stroll") := ⟨_, _, _, _, clkX10, by decide, big_at 413 (by decide +kernel) rfl, rfl, rfl, by decide +kernel⟩
theorem gf_X10_79 : Gf RX10 79 10 11 := ⟨_, _, _, _, clkX10, by decide, Or.inl (big_at 414 (by decide +kernel) rfl)⟩
theorem pff_X10_79 : Pff RX10 79 10 11 (.object "RandomWalks$Spread") := ⟨_, _, _, _, clkX10, by decide, big_at 414 (by decide +kernel) rfl, rfl, rfl, by decide +kernel⟩
theorem ml_L_94 : Cond.methodLink RL 94 yX10_append ∈ big := big_at 440 (by decide +kernel) rfl
theorem ml_X10_92 : Cond.methodLink RX10 92 yX9_hold ∈ big := big_at 444 (by decide +kernel) rfl
theorem ml_L_109 : Cond.methodLink RL 109 yX10_errorOffset ∈ big := big_at 448 (by decide +kernel) rfl
theorem ml_L_113 : Cond.methodLink RL 113 yX10_size ∈ big := big_at 452 (by decide +kernel) rfl
theorem ml_L_117 : Cond.methodLink RL 117 yX10_edgeCount ∈ big := big_at 456 (by decide +kernel) rfl
theorem ml_L_147 : Cond.methodLink RL 147 yX10_trees ∈ big := big_at 460 (by decide +kernel) rfl
theorem ml_X10_193 : Cond.methodLink RX10 193 yX10_countTrees ∈ big := big_at 464 (by decide +kernel) rfl
theorem ml_X10_333 : Cond.methodLink RX10 333 yX1_treesOf ∈ big := big_at 468 (by decide +kernel) rfl
theorem ml_X1_42 : Cond.methodLink RX1 42 yX1_build ∈ big := big_at 472 (by decide +kernel) rfl
theorem ml_X1_57 : Cond.methodLink RX1 57 yX3_sumOfWeights ∈ big := big_at 476 (by decide +kernel) rfl
theorem ml_X3_71 : Cond.methodLink RX3 71 yX3_weightBetween ∈ big := big_at 480 (by decide +kernel) rfl
theorem ml_X1_60 : Cond.methodLink RX1 60 yX3_weightBetween ∈ big := big_at 484 (by decide +kernel) rfl
theorem ml_X1_64 : Cond.methodLink RX1 64 yX1_putCell ∈ big := big_at 485 (by decide +kernel) rfl
theorem ml_X1_46 : Cond.methodLink RX1 46 yX1_eliminate ∈ big := big_at 489 (by decide +kernel) rfl
theorem ml_X1_50 : Cond.methodLink RX1 50 yX1_cell ∈ big := big_at 493 (by decide +kernel) rfl
theorem ml_L_152 : Cond.methodLink RL 152 yX10_absorbing ∈ big := big_at 497 (by decide +kernel) rfl
theorem ml_L_166 : Cond.methodLink RL 166 yX10_blockCount ∈ big := big_at 501 (by decide +kernel) rfl
theorem ml_L_170 : Cond.methodLink RL 170 yX10_isLumpable ∈ big := big_at 505 (by decide +kernel) rfl
theorem ml_X10_225 : Cond.methodLink RX10 225 yX5_firstParted ∈ big := big_at 509 (by decide +kernel) rfl
theorem ml_X5_33 : Cond.methodLink RX5 33 yX5_firstDifference ∈ big := big_at 513 (by decide +kernel) rfl
theorem ml_X5_58 : Cond.methodLink RX5 58 yX3_sumOfWeights ∈ big := big_at 516 (by decide +kernel) rfl
theorem ml_X5_79 : Cond.methodLink RX5 79 Lib.Math.max.name ∈ big := big_at 517 (by decide +kernel) rfl
theorem ml_X5_66 : Cond.methodLink RX5 66 yX5_weightTo ∈ big := big_at 520 (by decide +kernel) rfl
theorem ml_X5_62 : Cond.methodLink RX5 62 yX3_weightBetween ∈ big := big_at 523 (by decide +kernel) rfl
theorem ml_L_175 : Cond.methodLink RL 175 yX10_parted ∈ big := big_at 524 (by decide +kernel) rfl
theorem ml_L_212 : Cond.methodLink RL 212 yX10_refine ∈ big := big_at 528 (by decide +kernel) rfl
theorem ml_X10_114 : Cond.methodLink RX10 114 yX4_keep ∈ big := big_at 532 (by decide +kernel) rfl
theorem ml_X4_25 : Cond.methodLink RX4 25 yX3_copyFrom ∈ big := big_at 536 (by decide +kernel) rfl
theorem ml_X3_46 : Cond.methodLink RX3 46 arraycopyName ∈ big := big_at 540 (by decide +kernel) rfl
theorem ml_X4_29 : Cond.methodLink RX4 29 Lib.Math.min.name ∈ big := big_at 543 (by decide +kernel) rfl
theorem ml_X10_301 : Cond.methodLink RX10 301 yX5_refineBlocks ∈ big := big_at 546 (by decide +kernel) rfl
theorem ml_X5_37 : Cond.methodLink RX5 37 yX5_firstParted ∈ big := big_at 550 (by decide +kernel) rfl
theorem ml_X5_41 : Cond.methodLink RX5 41 yX5_divideAll ∈ big := big_at 551 (by decide +kernel) rfl
theorem ml_X5_84 : Cond.methodLink RX5 84 yX5_staysWith ∈ big := big_at 555 (by decide +kernel) rfl
theorem ml_X5_88 : Cond.methodLink RX5 88 arraycopyName ∈ big := big_at 558 (by decide +kernel) rfl
theorem ml_L_216 : Cond.methodLink RL 216 yX10_undo ∈ big := big_at 559 (by decide +kernel) rfl
theorem ml_X10_304 : Cond.methodLink RX10 304 yX4_restore ∈ big := big_at 563 (by decide +kernel) rfl
theorem ml_L_220 : Cond.methodLink RL 220 yX10_checksum ∈ big := big_at 567 (by decide +kernel) rfl
theorem lc_X10_307 : Cond.constantLong RX10 307 (31) ∈ big := big_at 571 (by decide +kernel) rfl
theorem ml_X10_142 : Cond.methodLink RX10 142 yX3_weightBetween ∈ big := big_at 572 (by decide +kernel) rfl
theorem ml_L_99 : Cond.methodLink RL 99 yL_load ∈ big := big_at 573 (by decide +kernel) rfl
theorem kl_L_13 : Cond.classLink RL 13 "java/lang/IllegalArgumentException" ∈ big := big_at 576 (by decide +kernel) rfl
theorem ml_L_7 : Cond.methodLink RL 7 yX10_load ∈ big := big_at 577 (by decide +kernel) rfl
theorem kl_X10_96 : Cond.classLink RX10 96 "java/lang/IllegalArgumentException" ∈ big := big_at 581 (by decide +kernel) rfl
theorem ml_X10_100 : Cond.methodLink RX10 100 ⟨"java/lang/IllegalArgumentException", "<init>", "(Ljava/lang/String;)V"⟩ ∈ big := big_at 623 (by decide +kernel) rfl
theorem ml_X10_103 : Cond.methodLink RX10 103 yX9_scan ∈ big := big_at 648 (by decide +kernel) rfl
theorem ml_X9_32 : Cond.methodLink RX9 32 Lib.Math.min.name ∈ big := big_at 652 (by decide +kernel) rfl
theorem ml_X9_38 : Cond.methodLink RX9 38 yX9_scanToken ∈ big := big_at 653 (by decide +kernel) rfl
theorem ml_X9_45 : Cond.methodLink RX9 45 yX9_isDigit ∈ big := big_at 657 (by decide +kernel) rfl
theorem ml_X9_49 : Cond.methodLink RX9 49 yX9_scanNumber ∈ big := big_at 660 (by decide +kernel) rfl
theorem ml_X9_41 : Cond.methodLink RX9 41 yX9_put ∈ big := big_at 664 (by decide +kernel) rfl
theorem ml_X9_52 : Cond.methodLink RX9 52 yX9_isLetter ∈ big := big_at 668 (by decide +kernel) rfl
theorem ml_X9_55 : Cond.methodLink RX9 55 yX9_scanWord ∈ big := big_at 671 (by decide +kernel) rfl
theorem ml_X9_58 : Cond.methodLink RX9 58 yX9_kindOfWord ∈ big := big_at 675 (by decide +kernel) rfl
theorem ml_X9_63 : Cond.methodLink RX9 63 yX9_isWord ∈ big := big_at 680 (by decide +kernel) rfl
theorem ml_X9_81 : Cond.methodLink RX9 81 yJ0_length_8abf5 ∈ big := big_at 684 (by decide +kernel) rfl
theorem ml_J0_335 : Cond.methodLink RJ0 335 yJ0_coder_7d493 ∈ big := big_at 688 (by decide +kernel) rfl
theorem ml_X9_87 : Cond.methodLink RX9 87 yJ0_charAt_5068e ∈ big := big_at 694 (by decide +kernel) rfl
theorem ml_J0_492 : Cond.methodLink RJ0 492 yJ0_isLatin1_aae02 ∈ big := big_at 698 (by decide +kernel) rfl
theorem ml_J0_495 : Cond.methodLink RJ0 495 yJ1_charAt_3b067 ∈ big := big_at 702 (by decide +kernel) rfl
theorem ml_J1_9 : Cond.methodLink RJ1 9 yJ0_checkIndex_df160 ∈ big := big_at 705 (by decide +kernel) rfl
theorem ml_J0_1059 : Cond.methodLink RJ0 1059 yJ3_checkIndex_8e157 ∈ big := big_at 710 (by decide +kernel) rfl
theorem ml_J0_498 : Cond.methodLink RJ0 498 yJ2_charAt_3b067 ∈ big := big_at 713 (by decide +kernel) rfl
theorem ml_J2_67 : Cond.methodLink RJ2 67 yJ2_checkIndex_2214a ∈ big := big_at 716 (by decide +kernel) rfl
theorem ml_J2_48 : Cond.methodLink RJ2 48 yJ2_length_9d52b ∈ big := big_at 719 (by decide +kernel) rfl
theorem ml_J2_414 : Cond.methodLink RJ2 414 yJ0_checkIndex_df160 ∈ big := big_at 722 (by decide +kernel) rfl
theorem ml_J2_71 : Cond.methodLink RJ2 71 yJ2_getChar_3b067 ∈ big := big_at 723 (by decide +kernel) rfl
theorem ml_X10_106 : Cond.methodLink RX10 106 yX6_readSetup ∈ big := big_at 739 (by decide +kernel) rfl
theorem ml_X6_61 : Cond.methodLink RX6 61 yX6_takeToken ∈ big := big_at 743 (by decide +kernel) rfl
theorem ml_X6_64 : Cond.methodLink RX6 64 yX6_fail ∈ big := big_at 747 (by decide +kernel) rfl
theorem ml_X6_68 : Cond.methodLink RX6 68 yX6_readNumber ∈ big := big_at 751 (by decide +kernel) rfl
theorem ml_X6_72 : Cond.methodLink RX6 72 yX3_clear ∈ big := big_at 755 (by decide +kernel) rfl
theorem ml_X3_52 : Cond.methodLink RX3 52 Lib.Math.min.name ∈ big := big_at 759 (by decide +kernel) rfl
theorem ml_X3_58 : Cond.methodLink RX3 58 Lib.Math.max.name ∈ big := big_at 760 (by decide +kernel) rfl
theorem ml_X3_61 : Cond.methodLink RX3 61 yJ7_fill_53178 ∈ big := big_at 761 (by decide +kernel) rfl
theorem ml_X6_76 : Cond.methodLink RX6 76 yX6_readSemicolon ∈ big := big_at 764 (by decide +kernel) rfl
theorem ml_X6_83 : Cond.methodLink RX6 83 yX6_readStatement ∈ big := big_at 768 (by decide +kernel) rfl
theorem ml_X6_86 : Cond.methodLink RX6 86 yX6_readEdge ∈ big := big_at 772 (by decide +kernel) rfl
theorem ml_X6_98 : Cond.methodLink RX6 98 yX6_readVertex ∈ big := big_at 776 (by decide +kernel) rfl
theorem ml_X6_101 : Cond.methodLink RX6 101 yX3_weightBetween ∈ big := big_at 780 (by decide +kernel) rfl
theorem ml_X6_105 : Cond.methodLink RX6 105 yX3_putEdge ∈ big := big_at 781 (by decide +kernel) rfl
theorem ml_X3_67 : Cond.methodLink RX3 67 yX3_putWeight ∈ big := big_at 785 (by decide +kernel) rfl
theorem ml_X6_89 : Cond.methodLink RX6 89 yX6_readAbsorb ∈ big := big_at 789 (by decide +kernel) rfl
theorem ml_X6_109 : Cond.methodLink RX6 109 yX3_isAbsorbing ∈ big := big_at 793 (by decide +kernel) rfl
theorem ml_X6_92 : Cond.methodLink RX6 92 yX6_readJoin ∈ big := big_at 797 (by decide +kernel) rfl
theorem ml_X6_115 : Cond.methodLink RX6 115 yX3_uniteBlocks ∈ big := big_at 801 (by decide +kernel) rfl
theorem ml_X3_90 : Cond.methodLink RX3 90 yX3_numberBlocks ∈ big := big_at 805 (by decide +kernel) rfl
theorem ml_X6_95 : Cond.methodLink RX6 95 yX6_readCost ∈ big := big_at 809 (by decide +kernel) rfl
theorem ml_X6_119 : Cond.methodLink RX6 119 yX6_postpone ∈ big := big_at 813 (by decide +kernel) rfl
theorem ml_X6_122 : Cond.methodLink RX6 122 yX6_readFactor ∈ big := big_at 817 (by decide +kernel) rfl
theorem ml_X6_141 : Cond.methodLink RX6 141 yX6_emit ∈ big := big_at 821 (by decide +kernel) rfl
theorem ml_X6_125 : Cond.methodLink RX6 125 yX6_strength ∈ big := big_at 825 (by decide +kernel) rfl
theorem ml_X6_129 : Cond.methodLink RX6 129 yX6_release ∈ big := big_at 828 (by decide +kernel) rfl
theorem ml_X6_146 : Cond.methodLink RX6 146 yX6_operation ∈ big := big_at 832 (by decide +kernel) rfl
theorem ml_X6_132 : Cond.methodLink RX6 132 yJ7_copyOf_59c91 ∈ big := big_at 835 (by decide +kernel) rfl
theorem ml_J7_316 : Cond.methodLink RJ7 316 ⟨"[I", "clone", "()Ljava/lang/Object;"⟩ ∈ big := big_at 838 (by decide +kernel) rfl
theorem kl_J7_317 : Cond.classLink RJ7 317 "[I" ∈ big := big_at 844 (by decide +kernel) rfl
theorem ml_J7_304 : Cond.methodLink RJ7 304 Lib.Math.min.name ∈ big := big_at 845 (by decide +kernel) rfl
theorem ml_J7_150 : Cond.methodLink RJ7 150 arraycopyName ∈ big := big_at 846 (by decide +kernel) rfl
theorem ml_X10_121 : Cond.methodLink RX10 121 yX3_copyFrom ∈ big := big_at 847 (by decide +kernel) rfl
theorem ml_L_121 : Cond.methodLink RL 121 yL_edge ∈ big := big_at 848 (by decide +kernel) rfl
theorem kl_L_19 : Cond.classLink RL 19 "java/lang/IndexOutOfBoundsException" ∈ big := big_at 851 (by decide +kernel) rfl
theorem ml_L_15 : Cond.methodLink RL 15 yX10_edge ∈ big := big_at 852 (by decide +kernel) rfl
theorem ml_X10_130 : Cond.methodLink RX10 130 yX10_requireEdge ∈ big := big_at 856 (by decide +kernel) rfl
theorem kl_X10_309 : Cond.classLink RX10 309 "java/lang/IndexOutOfBoundsException" ∈ big := big_at 860 (by decide +kernel) rfl
theorem ml_X10_313 : Cond.methodLink RX10 313 ⟨"java/lang/IndexOutOfBoundsException", "<init>", "(Ljava/lang/String;)V"⟩ ∈ big := big_at 870 (by decide +kernel) rfl
theorem ml_X10_146 : Cond.methodLink RX10 146 yX0_costOfStep ∈ big := big_at 877 (by decide +kernel) rfl
theorem ml_X0_23 : Cond.methodLink RX0 23 yX3_weightBetween ∈ big := big_at 881 (by decide +kernel) rfl
theorem ml_X0_27 : Cond.methodLink RX0 27 yX0_evaluate ∈ big := big_at 882 (by decide +kernel) rfl
theorem ml_X0_59 : Cond.methodLink RX0 59 yX0_operand ∈ big := big_at 886 (by decide +kernel) rfl
theorem ml_X0_63 : Cond.methodLink RX0 63 yX0_operate ∈ big := big_at 889 (by decide +kernel) rfl
theorem lc_X0_67 : Cond.constantLong RX0 67 (-1000000) ∈ big := big_at 892 (by decide +kernel) rfl
theorem lc_X0_69 : Cond.constantLong RX0 69 (1000000) ∈ big := big_at 893 (by decide +kernel) rfl
theorem ml_X0_71 : Cond.methodLink RX0 71 Lib.MathLoose.min_long.x ∈ big := big_at 894 (by decide +kernel) rfl
theorem ml_X0_74 : Cond.methodLink RX0 74 Lib.MathLoose.max_long.x ∈ big := big_at 897 (by decide +kernel) rfl
theorem ml_X0_31 : Cond.methodLink RX0 31 Lib.Math.min.name ∈ big := big_at 900 (by decide +kernel) rfl
theorem ml_X0_36 : Cond.methodLink RX0 36 Lib.Math.max.name ∈ big := big_at 901 (by decide +kernel) rfl
theorem ml_L_125 : Cond.methodLink RL 125 yL_degree ∈ big := big_at 902 (by decide +kernel) rfl
theorem ml_L_21 : Cond.methodLink RL 21 yX10_degree ∈ big := big_at 905 (by decide +kernel) rfl
theorem ml_X10_150 : Cond.methodLink RX10 150 yX10_requireVertex ∈ big := big_at 909 (by decide +kernel) rfl
theorem ml_X10_153 : Cond.methodLink RX10 153 yX3_sumOfWeights ∈ big := big_at 914 (by decide +kernel) rfl
theorem ml_L_128 : Cond.methodLink RL 128 yL_reachable ∈ big := big_at 915 (by decide +kernel) rfl
theorem ml_L_24 : Cond.methodLink RL 24 yX10_reachable ∈ big := big_at 918 (by decide +kernel) rfl
theorem ml_X10_157 : Cond.methodLink RX10 157 yX3_component ∈ big := big_at 922 (by decide +kernel) rfl
theorem ml_X3_74 : Cond.methodLink RX3 74 yX3_neighbours ∈ big := big_at 926 (by decide +kernel) rfl
theorem ml_L_131 : Cond.methodLink RL 131 yL_transition ∈ big := big_at 930 (by decide +kernel) rfl
theorem ml_L_27 : Cond.methodLink RL 27 yX10_transition ∈ big := big_at 933 (by decide +kernel) rfl
theorem ml_X10_160 : Cond.methodLink RX10 160 yX3_stepChance ∈ big := big_at 937 (by decide +kernel) rfl
theorem ml_X3_81 : Cond.methodLink RX3 81 yX3_sumOfWeights ∈ big := big_at 941 (by decide +kernel) rfl
theorem ml_X3_84 : Cond.methodLink RX3 84 yX2_put ∈ big := big_at 942 (by decide +kernel) rfl
theorem ml_X2_16 : Cond.methodLink RX2 16 yX2_commonDivisor ∈ big := big_at 946 (by decide +kernel) rfl
theorem ml_X2_24 : Cond.methodLink RX2 24 Lib.MathLoose.abs_long.x ∈ big := big_at 949 (by decide +kernel) rfl
theorem ml_X10_164 : Cond.methodLink RX10 164 yX2_part ∈ big := big_at 952 (by decide +kernel) rfl
theorem ml_L_135 : Cond.methodLink RL 135 yL_hittingTime ∈ big := big_at 956 (by decide +kernel) rfl
theorem kl_L_35 : Cond.classLink RL 35 "java/lang/IllegalStateException" ∈ big := big_at 959 (by decide +kernel) rfl
theorem ml_L_31 : Cond.methodLink RL 31 yX10_hittingTime ∈ big := big_at 960 (by decide +kernel) rfl
theorem ml_X10_168 : Cond.methodLink RX10 168 yX10_requireWay ∈ big := big_at 964 (by decide +kernel) rfl
theorem ml_X10_244 : Cond.methodLink RX10 244 yX3_hasWay ∈ big := big_at 968 (by decide +kernel) rfl
theorem ml_X3_78 : Cond.methodLink RX3 78 yX3_component ∈ big := big_at 972 (by decide +kernel) rfl
theorem kl_X10_248 : Cond.classLink RX10 248 "java/lang/IllegalStateException" ∈ big := big_at 973 (by decide +kernel) rfl
theorem ml_X10_252 : Cond.methodLink RX10 252 ⟨"java/lang/IllegalStateException", "<init>", "(Ljava/lang/String;)V"⟩ ∈ big := big_at 983 (by decide +kernel) rfl
theorem ml_X10_172 : Cond.methodLink RX10 172 yX10_gainSteps ∈ big := big_at 989 (by decide +kernel) rfl
theorem ml_X10_175 : Cond.methodLink RX10 175 yX1_meanUntil ∈ big := big_at 993 (by decide +kernel) rfl
theorem ml_X1_26 : Cond.methodLink RX1 26 yX2_put ∈ big := big_at 997 (by decide +kernel) rfl
theorem ml_X1_32 : Cond.methodLink RX1 32 yX3_component ∈ big := big_at 998 (by decide +kernel) rfl
theorem ml_X1_38 : Cond.methodLink RX1 38 yX1_solve ∈ big := big_at 999 (by decide +kernel) rfl
theorem ml_L_138 : Cond.methodLink RL 138 yL_hittingCost ∈ big := big_at 1003 (by decide +kernel) rfl
theorem ml_L_37 : Cond.methodLink RL 37 yX10_hittingCost ∈ big := big_at 1006 (by decide +kernel) rfl
theorem ml_X10_179 : Cond.methodLink RX10 179 yX10_gainCosts ∈ big := big_at 1010 (by decide +kernel) rfl
theorem ml_X10_268 : Cond.methodLink RX10 268 yX0_fillTable ∈ big := big_at 1014 (by decide +kernel) rfl
theorem ml_X0_39 : Cond.methodLink RX0 39 yJ7_fill_53178 ∈ big := big_at 1018 (by decide +kernel) rfl
theorem ml_X0_55 : Cond.methodLink RX0 55 yX0_costOfStep ∈ big := big_at 1019 (by decide +kernel) rfl
theorem ml_X10_326 : Cond.methodLink RX10 326 yX0_tabled ∈ big := big_at 1020 (by decide +kernel) rfl
theorem ml_L_141 : Cond.methodLink RL 141 yL_commuteTime ∈ big := big_at 1024 (by decide +kernel) rfl
theorem ml_L_40 : Cond.methodLink RL 40 yX10_commuteTime ∈ big := big_at 1027 (by decide +kernel) rfl
theorem ml_X10_182 : Cond.methodLink RX10 182 yX10_findCommuteTime ∈ big := big_at 1031 (by decide +kernel) rfl
theorem ml_X10_329 : Cond.methodLink RX10 329 yX2_add ∈ big := big_at 1035 (by decide +kernel) rfl
theorem ml_X2_20 : Cond.methodLink RX2 20 yX2_put ∈ big := big_at 1039 (by decide +kernel) rfl
theorem ml_L_144 : Cond.methodLink RL 144 yL_resistance ∈ big := big_at 1040 (by decide +kernel) rfl
theorem ml_L_43 : Cond.methodLink RL 43 yX10_resistance ∈ big := big_at 1043 (by decide +kernel) rfl
theorem ml_X10_185 : Cond.methodLink RX10 185 yX10_sumOfDegrees ∈ big := big_at 1047 (by decide +kernel) rfl
theorem ml_X10_189 : Cond.methodLink RX10 189 yX2_divideBy ∈ big := big_at 1051 (by decide +kernel) rfl
theorem ml_L_156 : Cond.methodLink RL 156 yL_absorption ∈ big := big_at 1055 (by decide +kernel) rfl
theorem ml_L_46 : Cond.methodLink RL 46 yX10_absorption ∈ big := big_at 1058 (by decide +kernel) rfl
theorem ml_X10_200 : Cond.methodLink RX10 200 yX3_isAbsorbing ∈ big := big_at 1062 (by decide +kernel) rfl
theorem ml_X10_206 : Cond.methodLink RX10 206 yX10_requireAbsorbingWay ∈ big := big_at 1064 (by decide +kernel) rfl
theorem ml_X10_209 : Cond.methodLink RX10 209 yX10_findAbsorption ∈ big := big_at 1069 (by decide +kernel) rfl
theorem ml_X10_212 : Cond.methodLink RX10 212 yX2_put ∈ big := big_at 1073 (by decide +kernel) rfl
theorem ml_X10_216 : Cond.methodLink RX10 216 yX1_solve ∈ big := big_at 1074 (by decide +kernel) rfl
theorem ml_L_159 : Cond.methodLink RL 159 yL_absorptionTime ∈ big := big_at 1075 (by decide +kernel) rfl
theorem ml_L_49 : Cond.methodLink RL 49 yX10_absorptionTime ∈ big := big_at 1078 (by decide +kernel) rfl
theorem ml_L_163 : Cond.methodLink RL 163 yL_blockOf ∈ big := big_at 1082 (by decide +kernel) rfl
theorem ml_L_53 : Cond.methodLink RL 53 yX10_blockOf ∈ big := big_at 1085 (by decide +kernel) rfl
theorem ml_L_179 : Cond.methodLink RL 179 yL_lumped ∈ big := big_at 1089 (by decide +kernel) rfl
theorem ml_L_56 : Cond.methodLink RL 56 yX10_lumped ∈ big := big_at 1092 (by decide +kernel) rfl
theorem ml_X10_229 : Cond.methodLink RX10 229 yX10_requireBlock ∈ big := big_at 1096 (by decide +kernel) rfl
theorem ml_X10_232 : Cond.methodLink RX10 232 yX10_requireLumpable ∈ big := big_at 1101 (by decide +kernel) rfl
theorem ml_X10_235 : Cond.methodLink RX10 235 yX5_lumpBlocks ∈ big := big_at 1106 (by decide +kernel) rfl
theorem ml_X5_48 : Cond.methodLink RX5 48 yX3_clear ∈ big := big_at 1110 (by decide +kernel) rfl
theorem ml_X5_52 : Cond.methodLink RX5 52 yJ7_fill_d0a16 ∈ big := big_at 1111 (by decide +kernel) rfl
theorem ml_X5_69 : Cond.methodLink RX5 69 yX3_putWeight ∈ big := big_at 1114 (by decide +kernel) rfl
theorem ml_X10_238 : Cond.methodLink RX10 238 yX5_blockChance ∈ big := big_at 1115 (by decide +kernel) rfl
theorem ml_X5_73 : Cond.methodLink RX5 73 yX2_put ∈ big := big_at 1119 (by decide +kernel) rfl
theorem ml_L_182 : Cond.methodLink RL 182 yL_lumpedTime ∈ big := big_at 1120 (by decide +kernel) rfl
theorem ml_L_59 : Cond.methodLink RL 59 yX10_lumpedTime ∈ big := big_at 1123 (by decide +kernel) rfl
theorem ml_L_185 : Cond.methodLink RL 185 yL_after ∈ big := big_at 1128 (by decide +kernel) rfl
theorem ml_L_62 : Cond.methodLink RL 62 yX10_after ∈ big := big_at 1131 (by decide +kernel) rfl
theorem ml_X10_258 : Cond.methodLink RX10 258 yX7_chanceAfter ∈ big := big_at 1136 (by decide +kernel) rfl
theorem ml_X7_28 : Cond.methodLink RX7 28 yX7_fillChances ∈ big := big_at 1140 (by decide +kernel) rfl
theorem ml_X7_48 : Cond.methodLink RX7 48 yX3_stepChance ∈ big := big_at 1144 (by decide +kernel) rfl
theorem ml_X7_38 : Cond.methodLink RX7 38 yX7_chanceAt ∈ big := big_at 1145 (by decide +kernel) rfl
theorem ml_X7_42 : Cond.methodLink RX7 42 arraycopyName ∈ big := big_at 1149 (by decide +kernel) rfl
theorem ml_L_189 : Cond.methodLink RL 189 yL_walk ∈ big := big_at 1150 (by decide +kernel) rfl
theorem ml_L_66 : Cond.methodLink RL 66 yX10_walk ∈ big := big_at 1153 (by decide +kernel) rfl
theorem ml_X10_271 : Cond.methodLink RX10 271 yX8_go ∈ big := big_at 1160 (by decide +kernel) rfl
theorem ml_X8_26 : Cond.methodLink RX8 26 yX3_isAbsorbing ∈ big := big_at 1164 (by decide +kernel) rfl
theorem ml_X8_32 : Cond.methodLink RX8 32 yX8_drawStep ∈ big := big_at 1165 (by decide +kernel) rfl
theorem ml_X8_42 : Cond.methodLink RX8 42 yX3_sumOfWeights ∈ big := big_at 1169 (by decide +kernel) rfl
theorem lc_X8_46 : Cond.constantLong RX8 46 (1103515245) ∈ big := big_at 1170 (by decide +kernel) rfl
theorem lc_X8_48 : Cond.constantLong RX8 48 (12345) ∈ big := big_at 1171 (by decide +kernel) rfl
theorem lc_X8_50 : Cond.constantLong RX8 50 (2147483648) ∈ big := big_at 1172 (by decide +kernel) rfl
theorem lc_X8_52 : Cond.constantLong RX8 52 (65536) ∈ big := big_at 1173 (by decide +kernel) rfl
theorem ml_X8_57 : Cond.methodLink RX8 57 yX3_weightBetween ∈ big := big_at 1174 (by decide +kernel) rfl
theorem ml_X8_36 : Cond.methodLink RX8 36 yX0_tabled ∈ big := big_at 1175 (by decide +kernel) rfl
theorem ml_X10_275 : Cond.methodLink RX10 275 yX8_told ∈ big := big_at 1176 (by decide +kernel) rfl
theorem ml_L_193 : Cond.methodLink RL 193 yL_setWeight ∈ big := big_at 1180 (by decide +kernel) rfl
theorem ml_L_70 : Cond.methodLink RL 70 yX10_setWeight ∈ big := big_at 1183 (by decide +kernel) rfl
theorem ml_X10_278 : Cond.methodLink RX10 278 yX10_requireWeight ∈ big := big_at 1187 (by decide +kernel) rfl
theorem ml_X10_281 : Cond.methodLink RX10 281 yX3_putWeight ∈ big := big_at 1192 (by decide +kernel) rfl
theorem ml_L_196 : Cond.methodLink RL 196 yL_addEdge ∈ big := big_at 1193 (by decide +kernel) rfl
theorem ml_L_73 : Cond.methodLink RL 73 yX10_addEdge ∈ big := big_at 1196 (by decide +kernel) rfl
theorem ml_X10_289 : Cond.methodLink RX10 289 yX3_putEdge ∈ big := big_at 1202 (by decide +kernel) rfl
theorem ml_L_200 : Cond.methodLink RL 200 yL_removeEdge ∈ big := big_at 1203 (by decide +kernel) rfl
theorem ml_L_77 : Cond.methodLink RL 77 yX10_removeEdge ∈ big := big_at 1206 (by decide +kernel) rfl
theorem ml_X10_292 : Cond.methodLink RX10 292 yX3_dropEdge ∈ big := big_at 1210 (by decide +kernel) rfl
theorem ml_L_203 : Cond.methodLink RL 203 yL_setAbsorbing ∈ big := big_at 1214 (by decide +kernel) rfl
theorem ml_L_80 : Cond.methodLink RL 80 yX10_setAbsorbing ∈ big := big_at 1217 (by decide +kernel) rfl
theorem ml_L_206 : Cond.methodLink RL 206 yL_join ∈ big := big_at 1221 (by decide +kernel) rfl
theorem ml_L_84 : Cond.methodLink RL 84 yX10_join ∈ big := big_at 1224 (by decide +kernel) rfl
theorem ml_X10_295 : Cond.methodLink RX10 295 yX3_uniteBlocks ∈ big := big_at 1228 (by decide +kernel) rfl
theorem ml_L_209 : Cond.methodLink RL 209 yL_separate ∈ big := big_at 1229 (by decide +kernel) rfl
theorem ml_L_87 : Cond.methodLink RL 87 yX10_separate ∈ big := big_at 1232 (by decide +kernel) rfl
theorem ml_X10_298 : Cond.methodLink RX10 298 yX3_isolateInBlock ∈ big := big_at 1236 (by decide +kernel) rfl
theorem kl_L_91 : Cond.classLink RL 91 "RandomWalksModel" ∈ big := big_at 1240 (by decide +kernel) rfl
theorem ml_L_93 : Cond.methodLink RL 93 yX11_init ∈ big := big_at 1242 (by decide +kernel) rfl
theorem ml_X11_1 : Cond.methodLink RX11 1 Lib.objectInit ∈ big := big_at 1245 (by decide +kernel) rfl
theorem gf_X11_55 : Gf RX11 55 11 0 := ⟨_, _, _, _, clkX11, by decide, Or.inl (big_at 1246 (by decide +kernel) rfl)⟩
theorem pf_X11_55 : Pf RX11 55 11 0 (.int) := ⟨_, _, _, _, clkX11, by decide, Or.inl (big_at 1246 (by decide +kernel) rfl), rfl, by decide +kernel⟩
theorem gf_X11_7 : Gf RX11 7 11 1 := ⟨_, _, _, _, clkX11, by decide, Or.inl (big_at 1247 (by decide +kernel) rfl)⟩
theorem pff_X11_7 : Pff RX11 7 11 1 (.array .int) := ⟨_, _, _, _, clkX11, by decide, big_at 1247 (by decide +kernel) rfl, rfl, rfl, by decide +kernel⟩
theorem gf_X11_13 : Gf RX11 13 11 2 := ⟨_, _, _, _, clkX11, by decide, Or.inl (big_at 1248 (by decide +kernel) rfl)⟩
theorem pff_X11_13 : Pff RX11 13 11 2 (.array .int) := ⟨_, _, _, _, clkX11, by decide, big_at 1248 (by decide +kernel) rfl, rfl, rfl, by decide +kernel⟩
theorem gf_X11_58 : Gf RX11 58 11 3 := ⟨_, _, _, _, clkX11, by decide, Or.inl (big_at 1249 (by decide +kernel) rfl)⟩
theorem pf_X11_58 : Pf RX11 58 11 3 (.int) := ⟨_, _, _, _, clkX11, by decide, Or.inl (big_at 1249 (by decide +kernel) rfl), rfl, by decide +kernel⟩
theorem gf_X11_65 : Gf RX11 65 11 4 := ⟨_, _, _, _, clkX11, by decide, Or.inl (big_at 1250 (by decide +kernel) rfl)⟩
theorem pf_X11_65 : Pf RX11 65 11 4 (.int) := ⟨_, _, _, _, clkX11, by decide, Or.inl (big_at 1250 (by decide +kernel) rfl), rfl, by decide +kernel⟩
theorem gf_X11_16 : Gf RX11 16 11 5 := ⟨_, _, _, _, clkX11, by decide, Or.inl (big_at 1251 (by decide +kernel) rfl)⟩
theorem pff_X11_16 : Pff RX11 16 11 5 (.array .int) := ⟨_, _, _, _, clkX11, by decide, big_at 1251 (by decide +kernel) rfl, rfl, rfl, by decide +kernel⟩
theorem gf_X11_68 : Gf RX11 68 11 6 := ⟨_, _, _, _, clkX11, by decide, Or.inl (big_at 1252 (by decide +kernel) rfl)⟩
theorem pf_X11_68 : Pf RX11 68 11 6 (.int) := ⟨_, _, _, _, clkX11, by decide, Or.inl (big_at 1252 (by decide +kernel) rfl), rfl, by decide +kernel⟩
theorem gf_X11_19 : Gf RX11 19 11 7 := ⟨_, _, _, _, clkX11, by decide, Or.inl (big_at 1253 (by decide +kernel) rfl)⟩
theorem pf_X11_19 : Pf RX11 19 11 7 (.int) := ⟨_, _, _, _, clkX11, by decide, Or.inl (big_at 1253 (by decide +kernel) rfl), rfl, by decide +kernel⟩
theorem gf_X11_80 : Gf RX11 80 11 8 := ⟨_, _, _, _, clkX11, by decide, Or.inl (big_at 1254 (by decide +kernel) rfl)⟩
theorem pf_X11_80 : Pf RX11 80 11 8 (.int) := ⟨_, _, _, _, clkX11, by decide, Or.inl (big_at 1254 (by decide +kernel) rfl), rfl, by decide +kernel⟩
theorem gf_X11_77 : Gf RX11 77 11 9 := ⟨_, _, _, _, clkX11, by decide, Or.inl (big_at 1255 (by decide +kernel) rfl)⟩
theorem pf_X11_77 : Pf RX11 77 11 9 (.int) := ⟨_, _, _, _, clkX11, by decide, Or.inl (big_at 1255 (by decide +kernel) rfl), rfl, by decide +kernel⟩
theorem gf_X11_71 : Gf RX11 71 11 10 := ⟨_, _, _, _, clkX11, by decide, Or.inl (big_at 1256 (by decide +kernel) rfl)⟩
theorem pf_X11_71 : Pf RX11 71 11 10 (.int) := ⟨_, _, _, _, clkX11, by decide, Or.inl (big_at 1256 (by decide +kernel) rfl), rfl, by decide +kernel⟩
theorem gf_X11_74 : Gf RX11 74 11 11 := ⟨_, _, _, _, clkX11, by decide, Or.inl (big_at 1257 (by decide +kernel) rfl)⟩
theorem pf_X11_74 : Pf RX11 74 11 11 (.int) := ⟨_, _, _, _, clkX11, by decide, Or.inl (big_at 1257 (by decide +kernel) rfl), rfl, by decide +kernel⟩
theorem gf_X11_104 : Gf RX11 104 11 12 := ⟨_, _, _, _, clkX11, by decide, Or.inl (big_at 1258 (by decide +kernel) rfl)⟩
theorem pf_X11_104 : Pf RX11 104 11 12 (.int) := ⟨_, _, _, _, clkX11, by decide, Or.inl (big_at 1258 (by decide +kernel) rfl), rfl, by decide +kernel⟩
theorem gf_X11_127 : Gf RX11 127 11 13 := ⟨_, _, _, _, clkX11, by decide, Or.inl (big_at 1259 (by decide +kernel) rfl)⟩
theorem pf_X11_127 : Pf RX11 127 11 13 (.int) := ⟨_, _, _, _, clkX11, by decide, Or.inl (big_at 1259 (by decide +kernel) rfl), rfl, by decide +kernel⟩
theorem gf_X11_181 : Gf RX11 181 11 14 := ⟨_, _, _, _, clkX11, by decide, Or.inl (big_at 1260 (by decide +kernel) rfl)⟩
theorem pf_X11_181 : Pf RX11 181 11 14 (.boolean) := ⟨_, _, _, _, clkX11, by decide, Or.inl (big_at 1260 (by decide +kernel) rfl), rfl, by decide +kernel⟩
theorem gf_X11_23 : Gf RX11 23 11 15 := ⟨_, _, _, _, clkX11, by decide, Or.inl (big_at 1261 (by decide +kernel) rfl)⟩
theorem pff_X11_23 : Pff RX11 23 11 15 (.array .int) := ⟨_, _, _, _, clkX11, by decide, big_at 1261 (by decide +kernel) rfl, rfl, rfl, by decide +kernel⟩
theorem gf_X11_26 : Gf RX11 26 11 16 := ⟨_, _, _, _, clkX11, by decide, Or.inl (big_at 1262 (by decide +kernel) rfl)⟩
theorem pff_X11_26 : Pff RX11 26 11 16 (.array .int) := ⟨_, _, _, _, clkX11, by decide, big_at 1262 (by decide +kernel) rfl, rfl, rfl, by decide +kernel⟩
theorem gf_X11_29 : Gf RX11 29 11 17 := ⟨_, _, _, _, clkX11, by decide, Or.inl (big_at 1263 (by decide +kernel) rfl)⟩
theorem pff_X11_29 : Pff RX11 29 11 17 (.array .int) := ⟨_, _, _, _, clkX11, by decide, big_at 1263 (by decide +kernel) rfl, rfl, rfl, by decide +kernel⟩
theorem gf_X11_32 : Gf RX11 32 11 18 := ⟨_, _, _, _, clkX11, by decide, Or.inl (big_at 1264 (by decide +kernel) rfl)⟩
theorem pff_X11_32 : Pff RX11 32 11 18 (.array .long) := ⟨_, _, _, _, clkX11, by decide, big_at 1264 (by decide +kernel) rfl, rfl, rfl, by decide +kernel⟩
theorem gf_X11_228 : Gf RX11 228 11 19 := ⟨_, _, _, _, clkX11, by decide, Or.inl (big_at 1265 (by decide +kernel) rfl)⟩
theorem pf_X11_228 : Pf RX11 228 11 19 (.long) := ⟨_, _, _, _, clkX11, by decide, Or.inl (big_at 1265 (by decide +kernel) rfl), rfl, by decide +kernel⟩
theorem gf_X11_232 : Gf RX11 232 11 20 := ⟨_, _, _, _, clkX11, by decide, Or.inl (big_at 1266 (by decide +kernel) rfl)⟩
theorem pf_X11_232 : Pf RX11 232 11 20 (.long) := ⟨_, _, _, _, clkX11, by decide, Or.inl (big_at 1266 (by decide +kernel) rfl), rfl, by decide +kernel⟩
theorem gf_X11_36 : Gf RX11 36 11 21 := ⟨_, _, _, _, clkX11, by decide, Or.inl (big_at 1267 (by decide +kernel) rfl)⟩
theorem pff_X11_36 : Pff RX11 36 11 21 (.array .long) := ⟨_, _, _, _, clkX11, by decide, big_at 1267 (by decide +kernel) rfl, rfl, rfl, by decide +kernel⟩
theorem gf_X11_39 : Gf RX11 39 11 22 := ⟨_, _, _, _, clkX11, by decide, Or.inl (big_at 1268 (by decide +kernel) rfl)⟩
theorem pff_X11_39 : Pff RX11 39 11 22 (.array .long) := ⟨_, _, _, _, clkX11, by decide, big_at 1268 (by decide +kernel) rfl, rfl, rfl, by decide +kernel⟩
theorem gf_X11_42 : Gf RX11 42 11 23 := ⟨_, _, _, _, clkX11, by decide, Or.inl (big_at 1269 (by decide +kernel) rfl)⟩
theorem pff_X11_42 : Pff RX11 42 11 23 (.array .int) := ⟨_, _, _, _, clkX11, by decide, big_at 1269 (by decide +kernel) rfl, rfl, rfl, by decide +kernel⟩
theorem gf_X11_235 : Gf RX11 235 11 24 := ⟨_, _, _, _, clkX11, by decide, Or.inl (big_at 1270 (by decide +kernel) rfl)⟩
theorem pf_X11_235 : Pf RX11 235 11 24 (.int) := ⟨_, _, _, _, clkX11, by decide, Or.inl (big_at 1270 (by decide +kernel) rfl), rfl, by decide +kernel⟩
theorem gf_X11_45 : Gf RX11 45 11 25 := ⟨_, _, _, _, clkX11, by decide, Or.inl (big_at 1271 (by decide +kernel) rfl)⟩
theorem pff_X11_45 : Pff RX11 45 11 25 (.array .int) := ⟨_, _, _, _, clkX11, by decide, big_at 1271 (by decide +kernel) rfl, rfl, rfl, by decide +kernel⟩
theorem gf_X11_48 : Gf RX11 48 11 27 := ⟨_, _, _, _, clkX11, by decide, Or.inl (big_at 1272 (by decide +kernel) rfl)⟩
theorem pff_X11_48 : Pff RX11 48 11 27 (.array .float) := ⟨_, _, _, _, clkX11, by decide, big_at 1272 (by decide +kernel) rfl, rfl, rfl, by decide +kernel⟩
theorem gf_X11_52 : Gf RX11 52 11 28 := ⟨_, _, _, _, clkX11, by decide, Or.inl (big_at 1273 (by decide +kernel) rfl)⟩
theorem pff_X11_52 : Pff RX11 52 11 28 (.array .float) := ⟨_, _, _, _, clkX11, by decide, big_at 1273 (by decide +kernel) rfl, rfl, rfl, by decide +kernel⟩
theorem ml_L_105 : Cond.methodLink RL 105 yX11_thrown ∈ big := big_at 1333 (by decide +kernel) rfl
theorem ml_L_98 : Cond.methodLink RL 98 yX11_append ∈ big := big_at 1337 (by decide +kernel) rfl
theorem ml_L_104 : Cond.methodLink RL 104 yX11_load ∈ big := big_at 1341 (by decide +kernel) rfl
theorem ml_X11_114 : Cond.methodLink RX11 114 yX11_isIn ∈ big := big_at 1345 (by decide +kernel) rfl
theorem ml_X11_190 : Cond.methodLink RX11 190 yX11_right ∈ big := big_at 1348 (by decide +kernel) rfl
theorem ml_X11_194 : Cond.methodLink RX11 194 yX11_texts ∈ big := big_at 1352 (by decide +kernel) rfl
theorem ml_X11_142 : Cond.methodLink RX11 142 yX11_takes ∈ big := big_at 1357 (by decide +kernel) rfl
theorem ml_X11_83 : Cond.methodLink RX11 83 yX11_sees ∈ big := big_at 1361 (by decide +kernel) rfl
theorem ml_X11_87 : Cond.methodLink RX11 87 yJ0_length_8abf5 ∈ big := big_at 1365 (by decide +kernel) rfl
theorem ml_X11_92 : Cond.methodLink RX11 92 yJ0_charAt_5068e ∈ big := big_at 1366 (by decide +kernel) rfl
theorem ml_X11_96 : Cond.methodLink RX11 96 yX11_fails ∈ big := big_at 1367 (by decide +kernel) rfl
theorem ml_X11_137 : Cond.methodLink RX11 137 yX11_reads ∈ big := big_at 1371 (by decide +kernel) rfl
theorem ml_X11_100 : Cond.methodLink RX11 100 yX11_isDigit ∈ big := big_at 1375 (by decide +kernel) rfl
theorem ic_X11_107 : Cond.constant RX11 107 (1000000) ∈ big := big_at 1379 (by decide +kernel) rfl
theorem ml_X11_108 : Cond.methodLink RX11 108 Lib.Math.min.name ∈ big := big_at 1380 (by decide +kernel) rfl
theorem ml_X11_133 : Cond.methodLink RX11 133 yX11_wants ∈ big := big_at 1381 (by decide +kernel) rfl
theorem ml_X11_187 : Cond.methodLink RX11 187 yX11_statement ∈ big := big_at 1385 (by decide +kernel) rfl
theorem ml_X11_166 : Cond.methodLink RX11 166 yX11_edgeLine ∈ big := big_at 1390 (by decide +kernel) rfl
theorem ml_X11_153 : Cond.methodLink RX11 153 yX11_readsVertex ∈ big := big_at 1394 (by decide +kernel) rfl
theorem ml_X11_156 : Cond.methodLink RX11 156 yX11_edgeIn ∈ big := big_at 1398 (by decide +kernel) rfl
theorem ml_X11_150 : Cond.methodLink RX11 150 Lib.Math.max.name ∈ big := big_at 1401 (by decide +kernel) rfl
theorem ml_X11_171 : Cond.methodLink RX11 171 yX11_absorbLine ∈ big := big_at 1403 (by decide +kernel) rfl
theorem ml_X11_176 : Cond.methodLink RX11 176 yX11_joinLine ∈ big := big_at 1408 (by decide +kernel) rfl
theorem ml_X11_160 : Cond.methodLink RX11 160 yX11_relabels ∈ big := big_at 1412 (by decide +kernel) rfl
theorem ml_X11_130 : Cond.methodLink RX11 130 yX11_sum ∈ big := big_at 1416 (by decide +kernel) rfl
theorem ml_X11_118 : Cond.methodLink RX11 118 yX11_term ∈ big := big_at 1420 (by decide +kernel) rfl
theorem ml_X11_124 : Cond.methodLink RX11 124 yX11_factor ∈ big := big_at 1424 (by decide +kernel) rfl
theorem ml_X11_121 : Cond.methodLink RX11 121 yX11_codes ∈ big := big_at 1428 (by decide +kernel) rfl
theorem ml_X11_197 : Cond.methodLink RX11 197 yX11_change ∈ big := big_at 1435 (by decide +kernel) rfl
theorem ml_X11_61 : Cond.methodLink RX11 61 yX11_get ∈ big := big_at 1439 (by decide +kernel) rfl
theorem ml_X11_200 : Cond.methodLink RX11 200 yX11_put ∈ big := big_at 1443 (by decide +kernel) rfl
theorem ml_X11_203 : Cond.methodLink RX11 203 yX11_numbers ∈ big := big_at 1447 (by decide +kernel) rfl
theorem ml_X11_218 : Cond.methodLink RX11 218 yX11_count ∈ big := big_at 1451 (by decide +kernel) rfl
theorem ml_L_112 : Cond.methodLink RL 112 yX11_errorOffset ∈ big := big_at 1455 (by decide +kernel) rfl
theorem ml_L_116 : Cond.methodLink RL 116 yX11_size ∈ big := big_at 1459 (by decide +kernel) rfl
theorem ml_L_120 : Cond.methodLink RL 120 yX11_edgeCount ∈ big := big_at 1463 (by decide +kernel) rfl
theorem ml_L_124 : Cond.methodLink RL 124 yX11_edge ∈ big := big_at 1467 (by decide +kernel) rfl
theorem ml_X11_262 : Cond.methodLink RX11 262 yX11_isEdge ∈ big := big_at 1471 (by decide +kernel) rfl
theorem lc_X11_266 : Cond.constantLong RX11 266 (4) ∈ big := big_at 1475 (by decide +kernel) rfl
theorem ml_X11_268 : Cond.methodLink RX11 268 yX11_lays ∈ big := big_at 1476 (by decide +kernel) rfl
theorem ml_X11_214 : Cond.methodLink RX11 214 yX11_costOf ∈ big := big_at 1480 (by decide +kernel) rfl
theorem lc_X11_206 : Cond.constantLong RX11 206 (1000000) ∈ big := big_at 1484 (by decide +kernel) rfl
theorem ml_X11_208 : Cond.methodLink RX11 208 yX11_within ∈ big := big_at 1485 (by decide +kernel) rfl
theorem lc_X11_212 : Cond.constantLong RX11 212 (99) ∈ big := big_at 1488 (by decide +kernel) rfl
theorem ml_L_127 : Cond.methodLink RL 127 yX11_degree ∈ big := big_at 1489 (by decide +kernel) rfl
theorem ml_X11_274 : Cond.methodLink RX11 274 yX11_starts ∈ big := big_at 1493 (by decide +kernel) rfl
theorem ml_X11_271 : Cond.methodLink RX11 271 yX11_isVertex ∈ big := big_at 1497 (by decide +kernel) rfl
theorem ml_L_130 : Cond.methodLink RL 130 yX11_reachable ∈ big := big_at 1501 (by decide +kernel) rfl
theorem ml_X11_249 : Cond.methodLink RX11 249 yX11_reachedFrom ∈ big := big_at 1505 (by decide +kernel) rfl
theorem ml_X11_221 : Cond.methodLink RX11 221 yX11_has ∈ big := big_at 1509 (by decide +kernel) rfl
theorem ml_L_134 : Cond.methodLink RL 134 yX11_transition ∈ big := big_at 1512 (by decide +kernel) rfl
theorem ml_X11_277 : Cond.methodLink RX11 277 yX11_starts2 ∈ big := big_at 1516 (by decide +kernel) rfl
theorem ml_X11_280 : Cond.methodLink RX11 280 yX11_step ∈ big := big_at 1520 (by decide +kernel) rfl
theorem ml_X11_245 : Cond.methodLink RX11 245 yX11_fraction ∈ big := big_at 1524 (by decide +kernel) rfl
theorem ml_X11_225 : Cond.methodLink RX11 225 yX11_divisor ∈ big := big_at 1528 (by decide +kernel) rfl
theorem ml_X11_283 : Cond.methodLink RX11 283 yX11_told ∈ big := big_at 1531 (by decide +kernel) rfl
theorem ml_L_137 : Cond.methodLink RL 137 yX11_hittingTime ∈ big := big_at 1535 (by decide +kernel) rfl
theorem ml_X11_287 : Cond.methodLink RX11 287 yX11_canGo ∈ big := big_at 1539 (by decide +kernel) rfl
theorem ml_X11_290 : Cond.methodLink RX11 290 yX11_meanTo ∈ big := big_at 1543 (by decide +kernel) rfl
theorem ml_X11_252 : Cond.methodLink RX11 252 yX11_begins ∈ big := big_at 1547 (by decide +kernel) rfl
theorem ml_X11_255 : Cond.methodLink RX11 255 yX11_further ∈ big := big_at 1551 (by decide +kernel) rfl
theorem ml_X11_259 : Cond.methodLink RX11 259 yX11_solves ∈ big := big_at 1555 (by decide +kernel) rfl
theorem ml_X11_242 : Cond.methodLink RX11 242 yX11_determinantWith ∈ big := big_at 1559 (by decide +kernel) rfl
theorem ml_X11_238 : Cond.methodLink RX11 238 yX11_determinant ∈ big := big_at 1563 (by decide +kernel) rfl
theorem ml_L_140 : Cond.methodLink RL 140 yX11_hittingCost ∈ big := big_at 1567 (by decide +kernel) rfl
theorem ml_L_143 : Cond.methodLink RL 143 yX11_commuteTime ∈ big := big_at 1571 (by decide +kernel) rfl
theorem ml_X11_294 : Cond.methodLink RX11 294 yX11_commutes ∈ big := big_at 1575 (by decide +kernel) rfl
theorem ml_L_146 : Cond.methodLink RL 146 yX11_resistance ∈ big := big_at 1579 (by decide +kernel) rfl
theorem ml_L_151 : Cond.methodLink RL 151 yX11_trees ∈ big := big_at 1583 (by decide +kernel) rfl
theorem ml_X11_297 : Cond.methodLink RX11 297 yX11_treesNow ∈ big := big_at 1587 (by decide +kernel) rfl
theorem ml_L_155 : Cond.methodLink RL 155 yX11_absorbing ∈ big := big_at 1591 (by decide +kernel) rfl
theorem ml_L_158 : Cond.methodLink RL 158 yX11_absorption ∈ big := big_at 1595 (by decide +kernel) rfl
theorem ml_L_162 : Cond.methodLink RL 162 yX11_absorptionTime ∈ big := big_at 1599 (by decide +kernel) rfl
theorem ml_L_165 : Cond.methodLink RL 165 yX11_blockOf ∈ big := big_at 1603 (by decide +kernel) rfl
theorem ml_L_169 : Cond.methodLink RL 169 yX11_blockCount ∈ big := big_at 1607 (by decide +kernel) rfl
theorem ml_X11_307 : Cond.methodLink RX11 307 yX11_blocksNow ∈ big := big_at 1611 (by decide +kernel) rfl
theorem ml_L_174 : Cond.methodLink RL 174 yX11_isLumpable ∈ big := big_at 1615 (by decide +kernel) rfl
theorem ml_X11_314 : Cond.methodLink RX11 314 yX11_firstParted ∈ big := big_at 1619 (by decide +kernel) rfl
theorem ml_X11_310 : Cond.methodLink RX11 310 yX11_areUnlike ∈ big := big_at 1623 (by decide +kernel) rfl
theorem ml_X11_301 : Cond.methodLink RX11 301 yX11_toBlock ∈ big := big_at 1627 (by decide +kernel) rfl
theorem ml_X11_304 : Cond.methodLink RX11 304 yX11_by ∈ big := big_at 1631 (by decide +kernel) rfl
theorem ml_L_178 : Cond.methodLink RL 178 yX11_parted ∈ big := big_at 1635 (by decide +kernel) rfl
theorem ml_L_181 : Cond.methodLink RL 181 yX11_lumped ∈ big := big_at 1639 (by decide +kernel) rfl
theorem ml_X11_317 : Cond.methodLink RX11 317 yX11_areBlocks ∈ big := big_at 1643 (by decide +kernel) rfl
theorem ml_X11_320 : Cond.methodLink RX11 320 yX11_firstOf ∈ big := big_at 1647 (by decide +kernel) rfl
theorem ml_L_184 : Cond.methodLink RL 184 yX11_lumpedTime ∈ big := big_at 1651 (by decide +kernel) rfl
theorem ml_X11_323 : Cond.methodLink RX11 323 yX11_setOf ∈ big := big_at 1655 (by decide +kernel) rfl
theorem ml_L_188 : Cond.methodLink RL 188 yX11_after ∈ big := big_at 1659 (by decide +kernel) rfl
theorem lc_X11_326 : Cond.constantLong RX11 326 (100) ∈ big := big_at 1663 (by decide +kernel) rfl
theorem ml_L_192 : Cond.methodLink RL 192 yX11_walk ∈ big := big_at 1664 (by decide +kernel) rfl
theorem lc_X11_328 : Cond.constantLong RX11 328 (1000) ∈ big := big_at 1668 (by decide +kernel) rfl
theorem lc_X11_330 : Cond.constantLong RX11 330 (3) ∈ big := big_at 1669 (by decide +kernel) rfl
theorem lc_X11_332 : Cond.constantLong RX11 332 (1103515245) ∈ big := big_at 1670 (by decide +kernel) rfl
theorem lc_X11_334 : Cond.constantLong RX11 334 (12345) ∈ big := big_at 1671 (by decide +kernel) rfl
theorem lc_X11_336 : Cond.constantLong RX11 336 (2147483648) ∈ big := big_at 1672 (by decide +kernel) rfl
theorem lc_X11_338 : Cond.constantLong RX11 338 (65536) ∈ big := big_at 1673 (by decide +kernel) rfl
theorem ml_L_195 : Cond.methodLink RL 195 yX11_setWeight ∈ big := big_at 1674 (by decide +kernel) rfl
theorem lc_X11_340 : Cond.constantLong RX11 340 (9) ∈ big := big_at 1678 (by decide +kernel) rfl
theorem ml_L_199 : Cond.methodLink RL 199 yX11_addEdge ∈ big := big_at 1679 (by decide +kernel) rfl
theorem ml_L_202 : Cond.methodLink RL 202 yX11_removeEdge ∈ big := big_at 1683 (by decide +kernel) rfl
theorem ml_L_205 : Cond.methodLink RL 205 yX11_setAbsorbing ∈ big := big_at 1687 (by decide +kernel) rfl
theorem ml_L_208 : Cond.methodLink RL 208 yX11_join ∈ big := big_at 1691 (by decide +kernel) rfl
theorem ml_L_211 : Cond.methodLink RL 211 yX11_separate ∈ big := big_at 1695 (by decide +kernel) rfl
theorem ml_L_215 : Cond.methodLink RL 215 yX11_refine ∈ big := big_at 1699 (by decide +kernel) rfl
theorem ml_X11_342 : Cond.methodLink RX11 342 yX11_divides ∈ big := big_at 1703 (by decide +kernel) rfl
theorem ml_L_219 : Cond.methodLink RL 219 yX11_undo ∈ big := big_at 1707 (by decide +kernel) rfl
theorem ml_L_223 : Cond.methodLink RL 223 yX11_checksum ∈ big := big_at 1711 (by decide +kernel) rfl
theorem lc_X11_345 : Cond.constantLong RX11 345 (31) ∈ big := big_at 1715 (by decide +kernel) rfl
theorem ac_double : Cond.arrayClass .double ∈ big := big_at 1716 (by decide +kernel) rfl
theorem oi_inst : Cond.instanceMethod Lib.objectInit ∈ big := big_at 127 (by decide +kernel) rfl
theorem oi_code : Cond.code Lib.objectInit ⟨#[0xb1]⟩ 1 none ∈ big := big_at 128 (by decide +kernel) rfl
theorem mw_min_s : Cond.static Lib.Math.min.name ∈ big := big_at 544 (by decide +kernel) rfl
theorem mw_min_c : Cond.code Lib.Math.min.name Lib.Math.min.code 2 (some .int) ∈ big := big_at 545 (by decide +kernel) rfl
theorem mw_max_s : Cond.static Lib.Math.max.name ∈ big := big_at 518 (by decide +kernel) rfl
theorem mw_max_c : Cond.code Lib.Math.max.name Lib.Math.max.code 2 (some .int) ∈ big := big_at 519 (by decide +kernel) rfl
theorem mw_minL_s : Cond.static Lib.MathLoose.min_long.x ∈ big := big_at 895 (by decide +kernel) rfl
theorem mw_minL_c : Cond.code Lib.MathLoose.min_long.x Lib.MathLoose.min_long.code 4 (some .long) ∈ big := big_at 896 (by decide +kernel) rfl
theorem mw_maxL_s : Cond.static Lib.MathLoose.max_long.x ∈ big := big_at 898 (by decide +kernel) rfl
theorem mw_maxL_c : Cond.code Lib.MathLoose.max_long.x Lib.MathLoose.max_long.code 4 (some .long) ∈ big := big_at 899 (by decide +kernel) rfl
theorem mw_absL_s : Cond.static Lib.MathLoose.abs_long.x ∈ big := big_at 950 (by decide +kernel) rfl
theorem mw_absL_c : Cond.code Lib.MathLoose.abs_long.x Lib.MathLoose.abs_long.code 2 (some .long) ∈ big := big_at 951 (by decide +kernel) rfl
theorem mw_math : Cond.initialized "java/lang/Math" ∈ big := big_at 112 (by decide +kernel) rfl
theorem mw_acopy_n : Cond.native arraycopyName ∈ big := big_at 542 (by decide +kernel) rfl
theorem mw_acopy_s : Cond.static arraycopyName ∈ big := big_at 541 (by decide +kernel) rfl
theorem mw_system : Cond.initialized "java/lang/System" ∈ big := big_at 118 (by decide +kernel) rfl
theorem nw_L_8 : Nw RL 8 10 12 [.int 0, .null, .null, .null, .null, .null, .null, .null, .null, .null, .null, .null] := ⟨_, _, _, clkX10, big_at 121 (by decide +kernel) rfl, big_at 122 (by decide +kernel) rfl, big_at 96 (by decide +kernel) rfl, fun j hj => by
  rcases (show j = 0 ∨ j = 1 ∨ j = 2 ∨ j = 3 ∨ j = 4 ∨ j = 5 ∨ j = 6 ∨ j = 7 ∨ j = 8 ∨ j = 9 ∨ j = 10 ∨ j = 11 by omega) with rfl | rfl | rfl | rfl | rfl | rfl | rfl | rfl | rfl | rfl | rfl | rfl <;> rfl⟩
theorem nw_X10_13 : Nw RX10 13 3 10 [.int 0, .int 0, .int 0, .int 0, .null, .null, .null, .null, .null, .null] := ⟨_, _, _, clkX3, big_at 129 (by decide +kernel) rfl, big_at 130 (by decide +kernel) rfl, big_at 97 (by decide +kernel) rfl, fun j hj => by
  rcases (show j = 0 ∨ j = 1 ∨ j = 2 ∨ j = 3 ∨ j = 4 ∨ j = 5 ∨ j = 6 ∨ j = 7 ∨ j = 8 ∨ j = 9 by omega) with rfl | rfl | rfl | rfl | rfl | rfl | rfl | rfl | rfl | rfl <;> rfl⟩
theorem nw_X10_20 : Nw RX10 20 4 3 [.null, .int 0, .int 0] := ⟨_, _, _, clkX4, big_at 189 (by decide +kernel) rfl, big_at 190 (by decide +kernel) rfl, big_at 98 (by decide +kernel) rfl, fun j hj => by
  rcases (show j = 0 ∨ j = 1 ∨ j = 2 by omega) with rfl | rfl | rfl <;> rfl⟩
theorem nw_X4_9 : Nw RX4 9 3 10 [.int 0, .int 0, .int 0, .int 0, .null, .null, .null, .null, .null, .null] := ⟨_, _, _, clkX3, big_at 195 (by decide +kernel) rfl, big_at 130 (by decide +kernel) rfl, big_at 97 (by decide +kernel) rfl, fun j hj => by
  rcases (show j = 0 ∨ j = 1 ∨ j = 2 ∨ j = 3 ∨ j = 4 ∨ j = 5 ∨ j = 6 ∨ j = 7 ∨ j = 8 ∨ j = 9 by omega) with rfl | rfl | rfl | rfl | rfl | rfl | rfl | rfl | rfl | rfl <;> rfl⟩
theorem nw_X10_27 : Nw RX10 27 6 13 [.null, .null, .int 0, .int 0, .int 0, .int 0, .int 0, .int 0, .int 0, .null, .int 0, .null, .int 0] := ⟨_, _, _, clkX6, big_at 208 (by decide +kernel) rfl, big_at 209 (by decide +kernel) rfl, big_at 99 (by decide +kernel) rfl, fun j hj => by
  rcases (show j = 0 ∨ j = 1 ∨ j = 2 ∨ j = 3 ∨ j = 4 ∨ j = 5 ∨ j = 6 ∨ j = 7 ∨ j = 8 ∨ j = 9 ∨ j = 10 ∨ j = 11 ∨ j = 12 by omega) with rfl | rfl | rfl | rfl | rfl | rfl | rfl | rfl | rfl | rfl | rfl | rfl | rfl <;> rfl⟩
theorem nw_X6_9 : Nw RX6 9 9 6 [.null, .int 0, .null, .null, .null, .int 0] := ⟨_, _, _, clkX9, big_at 214 (by decide +kernel) rfl, big_at 215 (by decide +kernel) rfl, big_at 100 (by decide +kernel) rfl, fun j hj => by
  rcases (show j = 0 ∨ j = 1 ∨ j = 2 ∨ j = 3 ∨ j = 4 ∨ j = 5 by omega) with rfl | rfl | rfl | rfl | rfl | rfl <;> rfl⟩
theorem nw_X6_18 : Nw RX6 18 3 10 [.int 0, .int 0, .int 0, .int 0, .null, .null, .null, .null, .null, .null] := ⟨_, _, _, clkX3, big_at 245 (by decide +kernel) rfl, big_at 130 (by decide +kernel) rfl, big_at 97 (by decide +kernel) rfl, fun j hj => by
  rcases (show j = 0 ∨ j = 1 ∨ j = 2 ∨ j = 3 ∨ j = 4 ∨ j = 5 ∨ j = 6 ∨ j = 7 ∨ j = 8 ∨ j = 9 by omega) with rfl | rfl | rfl | rfl | rfl | rfl | rfl | rfl | rfl | rfl <;> rfl⟩
theorem nw_X10_34 : Nw RX10 34 0 2 [.null, .null] := ⟨_, _, _, clkX0, big_at 291 (by decide +kernel) rfl, big_at 292 (by decide +kernel) rfl, big_at 101 (by decide +kernel) rfl, fun j hj => by
  rcases (show j = 0 ∨ j = 1 by omega) with rfl | rfl <;> rfl⟩
theorem nw_X10_41 : Nw RX10 41 5 3 [.null, .null, .null] := ⟨_, _, _, clkX5, big_at 304 (by decide +kernel) rfl, big_at 305 (by decide +kernel) rfl, big_at 102 (by decide +kernel) rfl, fun j hj => by
  rcases (show j = 0 ∨ j = 1 ∨ j = 2 by omega) with rfl | rfl | rfl <;> rfl⟩
theorem nw_X5_9 : Nw RX5 9 3 10 [.int 0, .int 0, .int 0, .int 0, .null, .null, .null, .null, .null, .null] := ⟨_, _, _, clkX3, big_at 310 (by decide +kernel) rfl, big_at 130 (by decide +kernel) rfl, big_at 97 (by decide +kernel) rfl, fun j hj => by
  rcases (show j = 0 ∨ j = 1 ∨ j = 2 ∨ j = 3 ∨ j = 4 ∨ j = 5 ∨ j = 6 ∨ j = 7 ∨ j = 8 ∨ j = 9 by omega) with rfl | rfl | rfl | rfl | rfl | rfl | rfl | rfl | rfl | rfl <;> rfl⟩
theorem nw_X10_48 : Nw RX10 48 1 4 [.null, .null, .null, .int 0] := ⟨_, _, _, clkX1, big_at 325 (by decide +kernel) rfl, big_at 326 (by decide +kernel) rfl, big_at 103 (by decide +kernel) rfl, fun j hj => by
  rcases (show j = 0 ∨ j = 1 ∨ j = 2 ∨ j = 3 by omega) with rfl | rfl | rfl | rfl <;> rfl⟩
theorem nw_X10_55 : Nw RX10 55 2 2 [.long 0, .long 0] := ⟨_, _, _, clkX2, big_at 344 (by decide +kernel) rfl, big_at 345 (by decide +kernel) rfl, big_at 104 (by decide +kernel) rfl, fun j hj => by
  rcases (show j = 0 ∨ j = 1 by omega) with rfl | rfl <;> rfl⟩
theorem nw_X10_69 : Nw RX10 69 8 5 [.long 0, .int 0, .int 0, .int 0, .int 0] := ⟨_, _, _, clkX8, big_at 359 (by decide +kernel) rfl, big_at 360 (by decide +kernel) rfl, big_at 105 (by decide +kernel) rfl, fun j hj => by
  rcases (show j = 0 ∨ j = 1 ∨ j = 2 ∨ j = 3 ∨ j = 4 by omega) with rfl | rfl | rfl | rfl | rfl <;> rfl⟩
theorem nw_X10_76 : Nw RX10 76 7 4 [.null, .null, .null, .null] := ⟨_, _, _, clkX7, big_at 381 (by decide +kernel) rfl, big_at 382 (by decide +kernel) rfl, big_at 106 (by decide +kernel) rfl, fun j hj => by
  rcases (show j = 0 ∨ j = 1 ∨ j = 2 ∨ j = 3 by omega) with rfl | rfl | rfl | rfl <;> rfl⟩
theorem nw_X7_21 : Nw RX7 21 2 2 [.long 0, .long 0] := ⟨_, _, _, clkX2, big_at 387 (by decide +kernel) rfl, big_at 345 (by decide +kernel) rfl, big_at 104 (by decide +kernel) rfl, fun j hj => by
  rcases (show j = 0 ∨ j = 1 by omega) with rfl | rfl <;> rfl⟩
theorem nw_L_91 : Nw RL 91 11 29 [.int 0, .null, .null, .int 0, .int 0, .null, .int 0, .int 0, .int 0, .int 0, .int 0, .int 0, .int 0, .int 0, .int 0, .null, .null, .null, .null, .long 0, .long 0, .null, .null, .null, .int 0, .null, .int 0, .null, .null] := ⟨_, _, _, clkX11, big_at 1240 (by decide +kernel) rfl, big_at 1241 (by decide +kernel) rfl, big_at 107 (by decide +kernel) rfl, fun j hj => by
  rcases (show j = 0 ∨ j = 1 ∨ j = 2 ∨ j = 3 ∨ j = 4 ∨ j = 5 ∨ j = 6 ∨ j = 7 ∨ j = 8 ∨ j = 9 ∨ j = 10 ∨ j = 11 ∨ j = 12 ∨ j = 13 ∨ j = 14 ∨ j = 15 ∨ j = 16 ∨ j = 17 ∨ j = 18 ∨ j = 19 ∨ j = 20 ∨ j = 21 ∨ j = 22 ∨ j = 23 ∨ j = 24 ∨ j = 25 ∨ j = 26 ∨ j = 27 ∨ j = 28 by omega) with rfl | rfl | rfl | rfl | rfl | rfl | rfl | rfl | rfl | rfl | rfl | rfl | rfl | rfl | rfl | rfl | rfl | rfl | rfl | rfl | rfl | rfl | rfl | rfl | rfl | rfl | rfl | rfl | rfl <;> rfl⟩
set_option maxRecDepth 20000 in
theorem xw_X10_96 : Xw RX10 96 100 "java/lang/IllegalArgumentException" := ⟨by decide +kernel, kl_X10_96, big_at 111 (by decide +kernel) rfl, by decide +kernel, by decide +kernel⟩
set_option maxRecDepth 20000 in
theorem xw_X10_309 : Xw RX10 309 313 "java/lang/IndexOutOfBoundsException" := ⟨by decide +kernel, kl_X10_309, big_at 119 (by decide +kernel) rfl, by decide +kernel, by decide +kernel⟩
set_option maxRecDepth 20000 in
theorem xw_X10_248 : Xw RX10 248 252 "java/lang/IllegalStateException" := ⟨by decide +kernel, kl_X10_248, big_at 120 (by decide +kernel) rfl, by decide +kernel, by decide +kernel⟩
abbrev mX10_init : Md := (yX10_init, cX10_init, 1, none, [])
theorem mw_X10_init : MwI mX10_init 0 := ⟨⟨big_at 125 (by decide +kernel) rfl, big_at 96 (by decide +kernel) rfl, ⟨by decide +kernel, by decide +kernel⟩, by decide +kernel⟩, rfl, big_at 124 (by decide +kernel) rfl⟩
abbrev mX3_init : Md := (yX3_init, cX3_init, 1, none, [])
theorem mw_X3_init : MwI mX3_init 0 := ⟨⟨big_at 133 (by decide +kernel) rfl, big_at 97 (by decide +kernel) rfl, ⟨by decide +kernel, by decide +kernel⟩, by decide +kernel⟩, rfl, big_at 132 (by decide +kernel) rfl⟩
abbrev mX4_init : Md := (yX4_init, cX4_init, 2, none, [])
theorem mw_X4_init : MwI mX4_init 0 := ⟨⟨big_at 193 (by decide +kernel) rfl, big_at 98 (by decide +kernel) rfl, ⟨by decide +kernel, by decide +kernel⟩, by decide +kernel⟩, rfl, big_at 192 (by decide +kernel) rfl⟩
abbrev mX6_init : Md := (yX6_init, cX6_init, 1, none, [])
theorem mw_X6_init : MwI mX6_init 0 := ⟨⟨big_at 212 (by decide +kernel) rfl, big_at 99 (by decide +kernel) rfl, ⟨by decide +kernel, by decide +kernel⟩, by decide +kernel⟩, rfl, big_at 211 (by decide +kernel) rfl⟩
abbrev mX9_init : Md := (yX9_init, cX9_init, 1, none, [])
theorem mw_X9_init : MwI mX9_init 0 := ⟨⟨big_at 218 (by decide +kernel) rfl, big_at 100 (by decide +kernel) rfl, ⟨by decide +kernel, by decide +kernel⟩, by decide +kernel⟩, rfl, big_at 217 (by decide +kernel) rfl⟩
abbrev mX0_init : Md := (yX0_init, cX0_init, 1, none, [])
theorem mw_X0_init : MwI mX0_init 0 := ⟨⟨big_at 295 (by decide +kernel) rfl, big_at 101 (by decide +kernel) rfl, ⟨by decide +kernel, by decide +kernel⟩, by decide +kernel⟩, rfl, big_at 294 (by decide +kernel) rfl⟩
abbrev mX5_init : Md := (yX5_init, cX5_init, 1, none, [])
theorem mw_X5_init : MwI mX5_init 0 := ⟨⟨big_at 308 (by decide +kernel) rfl, big_at 102 (by decide +kernel) rfl, ⟨by decide +kernel, by decide +kernel⟩, by decide +kernel⟩, rfl, big_at 307 (by decide +kernel) rfl⟩
abbrev mX1_init : Md := (yX1_init, cX1_init, 1, none, [])
theorem mw_X1_init : MwI mX1_init 0 := ⟨⟨big_at 329 (by decide +kernel) rfl, big_at 103 (by decide +kernel) rfl, ⟨by decide +kernel, by decide +kernel⟩, by decide +kernel⟩, rfl, big_at 328 (by decide +kernel) rfl⟩
abbrev mX2_init : Md := (yX2_init, cX2_init, 1, none, [])
theorem mw_X2_init : MwI mX2_init 0 := ⟨⟨big_at 348 (by decide +kernel) rfl, big_at 104 (by decide +kernel) rfl, ⟨by decide +kernel, by decide +kernel⟩, by decide +kernel⟩, rfl, big_at 347 (by decide +kernel) rfl⟩
abbrev mX8_init : Md := (yX8_init, cX8_init, 1, none, [])
theorem mw_X8_init : MwI mX8_init 0 := ⟨⟨big_at 363 (by decide +kernel) rfl, big_at 105 (by decide +kernel) rfl, ⟨by decide +kernel, by decide +kernel⟩, by decide +kernel⟩, rfl, big_at 362 (by decide +kernel) rfl⟩
abbrev mX7_init : Md := (yX7_init, cX7_init, 1, none, [])
theorem mw_X7_init : MwI mX7_init 0 := ⟨⟨big_at 385 (by decide +kernel) rfl, big_at 106 (by decide +kernel) rfl, ⟨by decide +kernel, by decide +kernel⟩, by decide +kernel⟩, rfl, big_at 384 (by decide +kernel) rfl⟩
abbrev mX10_append : Md := (yX10_append, cX10_append, 7, (some .int), [])
theorem mw_X10_append : MwV mX10_append 5 := ⟨⟨big_at 443 (by decide +kernel) rfl, big_at 96 (by decide +kernel) rfl, ⟨by decide +kernel, by decide +kernel⟩, by decide +kernel⟩, big_at 441 (by decide +kernel) rfl, big_at 442 (by decide +kernel) rfl⟩
abbrev mX9_hold : Md := (yX9_hold, cX9_hold, 3, none, [])
theorem mw_X9_hold : MwV mX9_hold 1 := ⟨⟨big_at 447 (by decide +kernel) rfl, big_at 100 (by decide +kernel) rfl, ⟨by decide +kernel, by decide +kernel⟩, by decide +kernel⟩, big_at 445 (by decide +kernel) rfl, big_at 446 (by decide +kernel) rfl⟩
abbrev mX10_errorOffset : Md := (yX10_errorOffset, cX10_errorOffset, 1, (some .int), [])
theorem mw_X10_errorOffset : MwV mX10_errorOffset 0 := ⟨⟨big_at 451 (by decide +kernel) rfl, big_at 96 (by decide +kernel) rfl, ⟨by decide +kernel, by decide +kernel⟩, by decide +kernel⟩, big_at 449 (by decide +kernel) rfl, big_at 450 (by decide +kernel) rfl⟩
abbrev mX10_size : Md := (yX10_size, cX10_size, 1, (some .int), [])
theorem mw_X10_size : MwV mX10_size 0 := ⟨⟨big_at 455 (by decide +kernel) rfl, big_at 96 (by decide +kernel) rfl, ⟨by decide +kernel, by decide +kernel⟩, by decide +kernel⟩, big_at 453 (by decide +kernel) rfl, big_at 454 (by decide +kernel) rfl⟩
abbrev mX10_edgeCount : Md := (yX10_edgeCount, cX10_edgeCount, 1, (some .int), [])
theorem mw_X10_edgeCount : MwV mX10_edgeCount 0 := ⟨⟨big_at 459 (by decide +kernel) rfl, big_at 96 (by decide +kernel) rfl, ⟨by decide +kernel, by decide +kernel⟩, by decide +kernel⟩, big_at 457 (by decide +kernel) rfl, big_at 458 (by decide +kernel) rfl⟩
abbrev mX10_trees : Md := (yX10_trees, cX10_trees, 1, (some .long), [])
theorem mw_X10_trees : MwV mX10_trees 0 := ⟨⟨big_at 463 (by decide +kernel) rfl, big_at 96 (by decide +kernel) rfl, ⟨by decide +kernel, by decide +kernel⟩, by decide +kernel⟩, big_at 461 (by decide +kernel) rfl, big_at 462 (by decide +kernel) rfl⟩
abbrev mX10_countTrees : Md := (yX10_countTrees, cX10_countTrees, 1, (some .long), [])
theorem mw_X10_countTrees : MwV mX10_countTrees 0 := ⟨⟨big_at 467 (by decide +kernel) rfl, big_at 96 (by decide +kernel) rfl, ⟨by decide +kernel, by decide +kernel⟩, by decide +kernel⟩, big_at 466 (by decide +kernel) rfl, big_at 0 (by decide +kernel) rfl⟩
abbrev mX1_treesOf : Md := (yX1_treesOf, cX1_treesOf, 3, (some .long), [])
theorem mw_X1_treesOf : MwV mX1_treesOf 1 := ⟨⟨big_at 471 (by decide +kernel) rfl, big_at 103 (by decide +kernel) rfl, ⟨by decide +kernel, by decide +kernel⟩, by decide +kernel⟩, big_at 469 (by decide +kernel) rfl, big_at 470 (by decide +kernel) rfl⟩
abbrev mX1_build : Md := (yX1_build, cX1_build, 8, none, [])
theorem mw_X1_build : MwV mX1_build 4 := ⟨⟨big_at 475 (by decide +kernel) rfl, big_at 103 (by decide +kernel) rfl, ⟨by decide +kernel, by decide +kernel⟩, by decide +kernel⟩, big_at 474 (by decide +kernel) rfl, big_at 1 (by decide +kernel) rfl⟩
abbrev mX3_sumOfWeights : Md := (yX3_sumOfWeights, cX3_sumOfWeights, 4, (some .int), [])
theorem mw_X3_sumOfWeights : MwV mX3_sumOfWeights 1 := ⟨⟨big_at 479 (by decide +kernel) rfl, big_at 97 (by decide +kernel) rfl, ⟨by decide +kernel, by decide +kernel⟩, by decide +kernel⟩, big_at 477 (by decide +kernel) rfl, big_at 478 (by decide +kernel) rfl⟩
abbrev mX3_weightBetween : Md := (yX3_weightBetween, cX3_weightBetween, 3, (some .int), [])
theorem mw_X3_weightBetween : MwV mX3_weightBetween 2 := ⟨⟨big_at 483 (by decide +kernel) rfl, big_at 97 (by decide +kernel) rfl, ⟨by decide +kernel, by decide +kernel⟩, by decide +kernel⟩, big_at 481 (by decide +kernel) rfl, big_at 482 (by decide +kernel) rfl⟩
abbrev mX1_putCell : Md := (yX1_putCell, cX1_putCell, 5, none, [])
theorem mw_X1_putCell : MwV mX1_putCell 3 := ⟨⟨big_at 488 (by decide +kernel) rfl, big_at 103 (by decide +kernel) rfl, ⟨by decide +kernel, by decide +kernel⟩, by decide +kernel⟩, big_at 487 (by decide +kernel) rfl, big_at 2 (by decide +kernel) rfl⟩
abbrev mX1_eliminate : Md := (yX1_eliminate, cX1_eliminate, 10, (some .boolean), [])
theorem mw_X1_eliminate : MwV mX1_eliminate 0 := ⟨⟨big_at 492 (by decide +kernel) rfl, big_at 103 (by decide +kernel) rfl, ⟨by decide +kernel, by decide +kernel⟩, by decide +kernel⟩, big_at 491 (by decide +kernel) rfl, big_at 3 (by decide +kernel) rfl⟩
abbrev mX1_cell : Md := (yX1_cell, cX1_cell, 3, (some .long), [])
theorem mw_X1_cell : MwV mX1_cell 2 := ⟨⟨big_at 496 (by decide +kernel) rfl, big_at 103 (by decide +kernel) rfl, ⟨by decide +kernel, by decide +kernel⟩, by decide +kernel⟩, big_at 495 (by decide +kernel) rfl, big_at 4 (by decide +kernel) rfl⟩
abbrev mX10_absorbing : Md := (yX10_absorbing, cX10_absorbing, 1, (some .int), [])
theorem mw_X10_absorbing : MwV mX10_absorbing 0 := ⟨⟨big_at 500 (by decide +kernel) rfl, big_at 96 (by decide +kernel) rfl, ⟨by decide +kernel, by decide +kernel⟩, by decide +kernel⟩, big_at 498 (by decide +kernel) rfl, big_at 499 (by decide +kernel) rfl⟩
abbrev mX10_blockCount : Md := (yX10_blockCount, cX10_blockCount, 1, (some .int), [])
theorem mw_X10_blockCount : MwV mX10_blockCount 0 := ⟨⟨big_at 504 (by decide +kernel) rfl, big_at 96 (by decide +kernel) rfl, ⟨by decide +kernel, by decide +kernel⟩, by decide +kernel⟩, big_at 502 (by decide +kernel) rfl, big_at 503 (by decide +kernel) rfl⟩
abbrev mX10_isLumpable : Md := (yX10_isLumpable, cX10_isLumpable, 1, (some .boolean), [])
theorem mw_X10_isLumpable : MwV mX10_isLumpable 0 := ⟨⟨big_at 508 (by decide +kernel) rfl, big_at 96 (by decide +kernel) rfl, ⟨by decide +kernel, by decide +kernel⟩, by decide +kernel⟩, big_at 506 (by decide +kernel) rfl, big_at 507 (by decide +kernel) rfl⟩
abbrev mX5_firstParted : Md := (yX5_firstParted, cX5_firstParted, 5, (some .int), [])
theorem mw_X5_firstParted : MwV mX5_firstParted 1 := ⟨⟨big_at 512 (by decide +kernel) rfl, big_at 102 (by decide +kernel) rfl, ⟨by decide +kernel, by decide +kernel⟩, by decide +kernel⟩, big_at 510 (by decide +kernel) rfl, big_at 511 (by decide +kernel) rfl⟩
abbrev mX5_firstDifference : Md := (yX5_firstDifference, cX5_firstDifference, 6, (some .int), [])
theorem mw_X5_firstDifference : MwS mX5_firstDifference 3 := ⟨⟨big_at 515 (by decide +kernel) rfl, big_at 102 (by decide +kernel) rfl, ⟨by decide +kernel, by decide +kernel⟩, by decide +kernel⟩, big_at 514 (by decide +kernel) rfl⟩
abbrev mJ9_max_7cf53 : Md := (yJ9_max_7cf53, cJ9_max_7cf53, 2, (some .int), [])
theorem mw_J9_max_7cf53 : MwS mJ9_max_7cf53 2 := ⟨⟨big_at 519 (by decide +kernel) rfl, big_at 112 (by decide +kernel) rfl, ⟨by decide +kernel, by decide +kernel⟩, by decide +kernel⟩, big_at 518 (by decide +kernel) rfl⟩
abbrev mX5_weightTo : Md := (yX5_weightTo, cX5_weightTo, 5, (some .int), [])
theorem mw_X5_weightTo : MwS mX5_weightTo 3 := ⟨⟨big_at 522 (by decide +kernel) rfl, big_at 102 (by decide +kernel) rfl, ⟨by decide +kernel, by decide +kernel⟩, by decide +kernel⟩, big_at 521 (by decide +kernel) rfl⟩
abbrev mX10_parted : Md := (yX10_parted, cX10_parted, 1, (some .int), [])
theorem mw_X10_parted : MwV mX10_parted 0 := ⟨⟨big_at 527 (by decide +kernel) rfl, big_at 96 (by decide +kernel) rfl, ⟨by decide +kernel, by decide +kernel⟩, by decide +kernel⟩, big_at 525 (by decide +kernel) rfl, big_at 526 (by decide +kernel) rfl⟩
abbrev mX10_refine : Md := (yX10_refine, cX10_refine, 1, (some .int), [])
theorem mw_X10_refine : MwV mX10_refine 0 := ⟨⟨big_at 531 (by decide +kernel) rfl, big_at 96 (by decide +kernel) rfl, ⟨by decide +kernel, by decide +kernel⟩, by decide +kernel⟩, big_at 529 (by decide +kernel) rfl, big_at 530 (by decide +kernel) rfl⟩
abbrev mX4_keep : Md := (yX4_keep, cX4_keep, 2, none, [])
theorem mw_X4_keep : MwV mX4_keep 1 := ⟨⟨big_at 535 (by decide +kernel) rfl, big_at 98 (by decide +kernel) rfl, ⟨by decide +kernel, by decide +kernel⟩, by decide +kernel⟩, big_at 533 (by decide +kernel) rfl, big_at 534 (by decide +kernel) rfl⟩
abbrev mX3_copyFrom : Md := (yX3_copyFrom, cX3_copyFrom, 2, none, [])
theorem mw_X3_copyFrom : MwV mX3_copyFrom 1 := ⟨⟨big_at 539 (by decide +kernel) rfl, big_at 97 (by decide +kernel) rfl, ⟨by decide +kernel, by decide +kernel⟩, by decide +kernel⟩, big_at 537 (by decide +kernel) rfl, big_at 538 (by decide +kernel) rfl⟩
abbrev mJ9_min_7cf53 : Md := (yJ9_min_7cf53, cJ9_min_7cf53, 2, (some .int), [])
theorem mw_J9_min_7cf53 : MwS mJ9_min_7cf53 2 := ⟨⟨big_at 545 (by decide +kernel) rfl, big_at 112 (by decide +kernel) rfl, ⟨by decide +kernel, by decide +kernel⟩, by decide +kernel⟩, big_at 544 (by decide +kernel) rfl⟩
abbrev mX5_refineBlocks : Md := (yX5_refineBlocks, cX5_refineBlocks, 3, none, [])
theorem mw_X5_refineBlocks : MwV mX5_refineBlocks 1 := ⟨⟨big_at 549 (by decide +kernel) rfl, big_at 102 (by decide +kernel) rfl, ⟨by decide +kernel, by decide +kernel⟩, by decide +kernel⟩, big_at 547 (by decide +kernel) rfl, big_at 548 (by decide +kernel) rfl⟩
abbrev mX5_divideAll : Md := (yX5_divideAll, cX5_divideAll, 5, none, [])
theorem mw_X5_divideAll : MwV mX5_divideAll 1 := ⟨⟨big_at 554 (by decide +kernel) rfl, big_at 102 (by decide +kernel) rfl, ⟨by decide +kernel, by decide +kernel⟩, by decide +kernel⟩, big_at 553 (by decide +kernel) rfl, big_at 5 (by decide +kernel) rfl⟩
abbrev mX5_staysWith : Md := (yX5_staysWith, cX5_staysWith, 3, (some .boolean), [])
theorem mw_X5_staysWith : MwS mX5_staysWith 3 := ⟨⟨big_at 557 (by decide +kernel) rfl, big_at 102 (by decide +kernel) rfl, ⟨by decide +kernel, by decide +kernel⟩, by decide +kernel⟩, big_at 556 (by decide +kernel) rfl⟩
abbrev mX10_undo : Md := (yX10_undo, cX10_undo, 1, (some .int), [])
theorem mw_X10_undo : MwV mX10_undo 0 := ⟨⟨big_at 562 (by decide +kernel) rfl, big_at 96 (by decide +kernel) rfl, ⟨by decide +kernel, by decide +kernel⟩, by decide +kernel⟩, big_at 560 (by decide +kernel) rfl, big_at 561 (by decide +kernel) rfl⟩
abbrev mX4_restore : Md := (yX4_restore, cX4_restore, 2, (some .int), [])
theorem mw_X4_restore : MwV mX4_restore 1 := ⟨⟨big_at 566 (by decide +kernel) rfl, big_at 98 (by decide +kernel) rfl, ⟨by decide +kernel, by decide +kernel⟩, by decide +kernel⟩, big_at 564 (by decide +kernel) rfl, big_at 565 (by decide +kernel) rfl⟩
abbrev mX10_checksum : Md := (yX10_checksum, cX10_checksum, 6, (some .long), [])
theorem mw_X10_checksum : MwV mX10_checksum 0 := ⟨⟨big_at 570 (by decide +kernel) rfl, big_at 96 (by decide +kernel) rfl, ⟨by decide +kernel, by decide +kernel⟩, by decide +kernel⟩, big_at 568 (by decide +kernel) rfl, big_at 569 (by decide +kernel) rfl⟩
abbrev mL_load : Md := (yL_load, cL_load, 4, (some .int), [(0, 9, 12, 13)])
theorem mw_L_load : MwS mL_load 3 := ⟨⟨big_at 575 (by decide +kernel) rfl, big_at 95 (by decide +kernel) rfl, ⟨by decide +kernel, by decide +kernel⟩, by decide +kernel⟩, big_at 574 (by decide +kernel) rfl⟩
abbrev mX10_load : Md := (yX10_load, cX10_load, 3, (some .int), [])
theorem mw_X10_load : MwV mX10_load 1 := ⟨⟨big_at 580 (by decide +kernel) rfl, big_at 96 (by decide +kernel) rfl, ⟨by decide +kernel, by decide +kernel⟩, by decide +kernel⟩, big_at 578 (by decide +kernel) rfl, big_at 579 (by decide +kernel) rfl⟩
abbrev mX9_scan : Md := (yX9_scan, cX9_scan, 5, none, [])
theorem mw_X9_scan : MwV mX9_scan 1 := ⟨⟨big_at 651 (by decide +kernel) rfl, big_at 100 (by decide +kernel) rfl, ⟨by decide +kernel, by decide +kernel⟩, by decide +kernel⟩, big_at 649 (by decide +kernel) rfl, big_at 650 (by decide +kernel) rfl⟩
abbrev mX9_scanToken : Md := (yX9_scanToken, cX9_scanToken, 3, (some .int), [])
theorem mw_X9_scanToken : MwV mX9_scanToken 2 := ⟨⟨big_at 656 (by decide +kernel) rfl, big_at 100 (by decide +kernel) rfl, ⟨by decide +kernel, by decide +kernel⟩, by decide +kernel⟩, big_at 655 (by decide +kernel) rfl, big_at 7 (by decide +kernel) rfl⟩
abbrev mX9_isDigit : Md := (yX9_isDigit, cX9_isDigit, 1, (some .boolean), [])
theorem mw_X9_isDigit : MwS mX9_isDigit 1 := ⟨⟨big_at 659 (by decide +kernel) rfl, big_at 100 (by decide +kernel) rfl, ⟨by decide +kernel, by decide +kernel⟩, by decide +kernel⟩, big_at 658 (by decide +kernel) rfl⟩
abbrev mX9_scanNumber : Md := (yX9_scanNumber, cX9_scanNumber, 5, (some .int), [])
theorem mw_X9_scanNumber : MwV mX9_scanNumber 2 := ⟨⟨big_at 663 (by decide +kernel) rfl, big_at 100 (by decide +kernel) rfl, ⟨by decide +kernel, by decide +kernel⟩, by decide +kernel⟩, big_at 662 (by decide +kernel) rfl, big_at 8 (by decide +kernel) rfl⟩
abbrev mX9_put : Md := (yX9_put, cX9_put, 4, none, [])
theorem mw_X9_put : MwV mX9_put 3 := ⟨⟨big_at 667 (by decide +kernel) rfl, big_at 100 (by decide +kernel) rfl, ⟨by decide +kernel, by decide +kernel⟩, by decide +kernel⟩, big_at 666 (by decide +kernel) rfl, big_at 9 (by decide +kernel) rfl⟩
abbrev mX9_isLetter : Md := (yX9_isLetter, cX9_isLetter, 1, (some .boolean), [])
theorem mw_X9_isLetter : MwS mX9_isLetter 1 := ⟨⟨big_at 670 (by decide +kernel) rfl, big_at 100 (by decide +kernel) rfl, ⟨by decide +kernel, by decide +kernel⟩, by decide +kernel⟩, big_at 669 (by decide +kernel) rfl⟩
abbrev mX9_scanWord : Md := (yX9_scanWord, cX9_scanWord, 4, (some .int), [])
theorem mw_X9_scanWord : MwV mX9_scanWord 2 := ⟨⟨big_at 674 (by decide +kernel) rfl, big_at 100 (by decide +kernel) rfl, ⟨by decide +kernel, by decide +kernel⟩, by decide +kernel⟩, big_at 673 (by decide +kernel) rfl, big_at 10 (by decide +kernel) rfl⟩
abbrev mX9_kindOfWord : Md := (yX9_kindOfWord, cX9_kindOfWord, 3, (some .int), [])
theorem mw_X9_kindOfWord : MwV mX9_kindOfWord 2 := ⟨⟨big_at 678 (by decide +kernel) rfl, big_at 100 (by decide +kernel) rfl, ⟨by decide +kernel, by decide +kernel⟩, by decide +kernel⟩, big_at 677 (by decide +kernel) rfl, big_at 11 (by decide +kernel) rfl⟩
abbrev mX9_isWord : Md := (yX9_isWord, cX9_isWord, 5, (some .boolean), [])
theorem mw_X9_isWord : MwV mX9_isWord 3 := ⟨⟨big_at 683 (by decide +kernel) rfl, big_at 100 (by decide +kernel) rfl, ⟨by decide +kernel, by decide +kernel⟩, by decide +kernel⟩, big_at 682 (by decide +kernel) rfl, big_at 12 (by decide +kernel) rfl⟩
abbrev mJ0_length_8abf5 : Md := (yJ0_length_8abf5, cJ0_length_8abf5, 1, (some .int), [])
theorem mw_J0_length_8abf5 : MwV mJ0_length_8abf5 0 := ⟨⟨big_at 687 (by decide +kernel) rfl, big_at 113 (by decide +kernel) rfl, ⟨by decide +kernel, by decide +kernel⟩, by decide +kernel⟩, big_at 685 (by decide +kernel) rfl, big_at 686 (by decide +kernel) rfl⟩
abbrev mJ0_coder_7d493 : Md := (yJ0_coder_7d493, cJ0_coder_7d493, 1, (some .byte), [])
theorem mw_J0_coder_7d493 : MwV mJ0_coder_7d493 0 := ⟨⟨big_at 691 (by decide +kernel) rfl, big_at 113 (by decide +kernel) rfl, ⟨by decide +kernel, by decide +kernel⟩, by decide +kernel⟩, big_at 689 (by decide +kernel) rfl, big_at 690 (by decide +kernel) rfl⟩
abbrev mJ0_charAt_5068e : Md := (yJ0_charAt_5068e, cJ0_charAt_5068e, 2, (some .char), [])
theorem mw_J0_charAt_5068e : MwV mJ0_charAt_5068e 1 := ⟨⟨big_at 697 (by decide +kernel) rfl, big_at 113 (by decide +kernel) rfl, ⟨by decide +kernel, by decide +kernel⟩, by decide +kernel⟩, big_at 695 (by decide +kernel) rfl, big_at 696 (by decide +kernel) rfl⟩
abbrev mJ0_isLatin1_aae02 : Md := (yJ0_isLatin1_aae02, cJ0_isLatin1_aae02, 1, (some .boolean), [])
theorem mw_J0_isLatin1_aae02 : MwV mJ0_isLatin1_aae02 0 := ⟨⟨big_at 701 (by decide +kernel) rfl, big_at 113 (by decide +kernel) rfl, ⟨by decide +kernel, by decide +kernel⟩, by decide +kernel⟩, big_at 699 (by decide +kernel) rfl, big_at 700 (by decide +kernel) rfl⟩
abbrev mJ1_charAt_3b067 : Md := (yJ1_charAt_3b067, cJ1_charAt_3b067, 2, (some .char), [])
theorem mw_J1_charAt_3b067 : MwS mJ1_charAt_3b067 2 := ⟨⟨big_at 704 (by decide +kernel) rfl, big_at 114 (by decide +kernel) rfl, ⟨by decide +kernel, by decide +kernel⟩, by decide +kernel⟩, big_at 703 (by decide +kernel) rfl⟩
abbrev mJ0_checkIndex_df160 : Md := (yJ0_checkIndex_df160, cJ0_checkIndex_df160, 2, none, [])
theorem mw_J0_checkIndex_df160 : MwS mJ0_checkIndex_df160 2 := ⟨⟨big_at 707 (by decide +kernel) rfl, big_at 113 (by decide +kernel) rfl, ⟨by decide +kernel, by decide +kernel⟩, by decide +kernel⟩, big_at 706 (by decide +kernel) rfl⟩
abbrev mJ3_checkIndex_8e157 : Md := (yJ3_checkIndex_8e157, cJ3_checkIndex_8e157, 3, (some .int), [])
theorem mw_J3_checkIndex_8e157 : MwS mJ3_checkIndex_8e157 3 := ⟨⟨big_at 712 (by decide +kernel) rfl, big_at 115 (by decide +kernel) rfl, ⟨by decide +kernel, by decide +kernel⟩, by decide +kernel⟩, big_at 711 (by decide +kernel) rfl⟩
abbrev mJ2_charAt_3b067 : Md := (yJ2_charAt_3b067, cJ2_charAt_3b067, 2, (some .char), [])
theorem mw_J2_charAt_3b067 : MwS mJ2_charAt_3b067 2 := ⟨⟨big_at 715 (by decide +kernel) rfl, big_at 116 (by decide +kernel) rfl, ⟨by decide +kernel, by decide +kernel⟩, by decide +kernel⟩, big_at 714 (by decide +kernel) rfl⟩
abbrev mJ2_checkIndex_2214a : Md := (yJ2_checkIndex_2214a, cJ2_checkIndex_2214a, 2, none, [])
theorem mw_J2_checkIndex_2214a : MwS mJ2_checkIndex_2214a 2 := ⟨⟨big_at 718 (by decide +kernel) rfl, big_at 116 (by decide +kernel) rfl, ⟨by decide +kernel, by decide +kernel⟩, by decide +kernel⟩, big_at 717 (by decide +kernel) rfl⟩
abbrev mJ2_length_9d52b : Md := (yJ2_length_9d52b, cJ2_length_9d52b, 1, (some .int), [])
theorem mw_J2_length_9d52b : MwS mJ2_length_9d52b 1 := ⟨⟨big_at 721 (by decide +kernel) rfl, big_at 116 (by decide +kernel) rfl, ⟨by decide +kernel, by decide +kernel⟩, by decide +kernel⟩, big_at 720 (by decide +kernel) rfl⟩
abbrev mJ2_getChar_3b067 : Md := (yJ2_getChar_3b067, cJ2_getChar_3b067, 2, (some .char), [])
theorem mw_J2_getChar_3b067 : MwS mJ2_getChar_3b067 2 := ⟨⟨big_at 725 (by decide +kernel) rfl, big_at 116 (by decide +kernel) rfl, ⟨by decide +kernel, by decide +kernel⟩, by decide +kernel⟩, big_at 724 (by decide +kernel) rfl⟩
abbrev mX6_readSetup : Md := (yX6_readSetup, cX6_readSetup, 2, (some .boolean), [])
theorem mw_X6_readSetup : MwV mX6_readSetup 0 := ⟨⟨big_at 742 (by decide +kernel) rfl, big_at 99 (by decide +kernel) rfl, ⟨by decide +kernel, by decide +kernel⟩, by decide +kernel⟩, big_at 740 (by decide +kernel) rfl, big_at 741 (by decide +kernel) rfl⟩
abbrev mX6_takeToken : Md := (yX6_takeToken, cX6_takeToken, 1, none, [])
theorem mw_X6_takeToken : MwV mX6_takeToken 0 := ⟨⟨big_at 746 (by decide +kernel) rfl, big_at 99 (by decide +kernel) rfl, ⟨by decide +kernel, by decide +kernel⟩, by decide +kernel⟩, big_at 745 (by decide +kernel) rfl, big_at 13 (by decide +kernel) rfl⟩
abbrev mX6_fail : Md := (yX6_fail, cX6_fail, 2, (some .boolean), [])
theorem mw_X6_fail : MwV mX6_fail 1 := ⟨⟨big_at 750 (by decide +kernel) rfl, big_at 99 (by decide +kernel) rfl, ⟨by decide +kernel, by decide +kernel⟩, by decide +kernel⟩, big_at 749 (by decide +kernel) rfl, big_at 14 (by decide +kernel) rfl⟩
abbrev mX6_readNumber : Md := (yX6_readNumber, cX6_readNumber, 3, (some .boolean), [])
theorem mw_X6_readNumber : MwV mX6_readNumber 2 := ⟨⟨big_at 754 (by decide +kernel) rfl, big_at 99 (by decide +kernel) rfl, ⟨by decide +kernel, by decide +kernel⟩, by decide +kernel⟩, big_at 753 (by decide +kernel) rfl, big_at 15 (by decide +kernel) rfl⟩
abbrev mX3_clear : Md := (yX3_clear, cX3_clear, 3, none, [])
theorem mw_X3_clear : MwV mX3_clear 1 := ⟨⟨big_at 758 (by decide +kernel) rfl, big_at 97 (by decide +kernel) rfl, ⟨by decide +kernel, by decide +kernel⟩, by decide +kernel⟩, big_at 756 (by decide +kernel) rfl, big_at 757 (by decide +kernel) rfl⟩
abbrev mJ7_fill_53178 : Md := (yJ7_fill_53178, cJ7_fill_53178, 4, none, [])
theorem mw_J7_fill_53178 : MwS mJ7_fill_53178 2 := ⟨⟨big_at 763 (by decide +kernel) rfl, big_at 117 (by decide +kernel) rfl, ⟨by decide +kernel, by decide +kernel⟩, by decide +kernel⟩, big_at 762 (by decide +kernel) rfl⟩
abbrev mX6_readSemicolon : Md := (yX6_readSemicolon, cX6_readSemicolon, 1, (some .boolean), [])
theorem mw_X6_readSemicolon : MwV mX6_readSemicolon 0 := ⟨⟨big_at 767 (by decide +kernel) rfl, big_at 99 (by decide +kernel) rfl, ⟨by decide +kernel, by decide +kernel⟩, by decide +kernel⟩, big_at 766 (by decide +kernel) rfl, big_at 16 (by decide +kernel) rfl⟩
abbrev mX6_readStatement : Md := (yX6_readStatement, cX6_readStatement, 1, (some .boolean), [])
theorem mw_X6_readStatement : MwV mX6_readStatement 0 := ⟨⟨big_at 771 (by decide +kernel) rfl, big_at 99 (by decide +kernel) rfl, ⟨by decide +kernel, by decide +kernel⟩, by decide +kernel⟩, big_at 770 (by decide +kernel) rfl, big_at 17 (by decide +kernel) rfl⟩
abbrev mX6_readEdge : Md := (yX6_readEdge, cX6_readEdge, 3, (some .boolean), [])
theorem mw_X6_readEdge : MwV mX6_readEdge 0 := ⟨⟨big_at 775 (by decide +kernel) rfl, big_at 99 (by decide +kernel) rfl, ⟨by decide +kernel, by decide +kernel⟩, by decide +kernel⟩, big_at 774 (by decide +kernel) rfl, big_at 18 (by decide +kernel) rfl⟩
abbrev mX6_readVertex : Md := (yX6_readVertex, cX6_readVertex, 1, (some .boolean), [])
theorem mw_X6_readVertex : MwV mX6_readVertex 0 := ⟨⟨big_at 779 (by decide +kernel) rfl, big_at 99 (by decide +kernel) rfl, ⟨by decide +kernel, by decide +kernel⟩, by decide +kernel⟩, big_at 778 (by decide +kernel) rfl, big_at 19 (by decide +kernel) rfl⟩
abbrev mX3_putEdge : Md := (yX3_putEdge, cX3_putEdge, 4, none, [])
theorem mw_X3_putEdge : MwV mX3_putEdge 3 := ⟨⟨big_at 784 (by decide +kernel) rfl, big_at 97 (by decide +kernel) rfl, ⟨by decide +kernel, by decide +kernel⟩, by decide +kernel⟩, big_at 782 (by decide +kernel) rfl, big_at 783 (by decide +kernel) rfl⟩
abbrev mX3_putWeight : Md := (yX3_putWeight, cX3_putWeight, 4, none, [])
theorem mw_X3_putWeight : MwV mX3_putWeight 3 := ⟨⟨big_at 788 (by decide +kernel) rfl, big_at 97 (by decide +kernel) rfl, ⟨by decide +kernel, by decide +kernel⟩, by decide +kernel⟩, big_at 786 (by decide +kernel) rfl, big_at 787 (by decide +kernel) rfl⟩
abbrev mX6_readAbsorb : Md := (yX6_readAbsorb, cX6_readAbsorb, 1, (some .boolean), [])
theorem mw_X6_readAbsorb : MwV mX6_readAbsorb 0 := ⟨⟨big_at 792 (by decide +kernel) rfl, big_at 99 (by decide +kernel) rfl, ⟨by decide +kernel, by decide +kernel⟩, by decide +kernel⟩, big_at 791 (by decide +kernel) rfl, big_at 20 (by decide +kernel) rfl⟩
abbrev mX3_isAbsorbing : Md := (yX3_isAbsorbing, cX3_isAbsorbing, 2, (some .boolean), [])
theorem mw_X3_isAbsorbing : MwV mX3_isAbsorbing 1 := ⟨⟨big_at 796 (by decide +kernel) rfl, big_at 97 (by decide +kernel) rfl, ⟨by decide +kernel, by decide +kernel⟩, by decide +kernel⟩, big_at 794 (by decide +kernel) rfl, big_at 795 (by decide +kernel) rfl⟩
abbrev mX6_readJoin : Md := (yX6_readJoin, cX6_readJoin, 2, (some .boolean), [])
theorem mw_X6_readJoin : MwV mX6_readJoin 0 := ⟨⟨big_at 800 (by decide +kernel) rfl, big_at 99 (by decide +kernel) rfl, ⟨by decide +kernel, by decide +kernel⟩, by decide +kernel⟩, big_at 799 (by decide +kernel) rfl, big_at 21 (by decide +kernel) rfl⟩
abbrev mX3_uniteBlocks : Md := (yX3_uniteBlocks, cX3_uniteBlocks, 6, none, [])
theorem mw_X3_uniteBlocks : MwV mX3_uniteBlocks 2 := ⟨⟨big_at 804 (by decide +kernel) rfl, big_at 97 (by decide +kernel) rfl, ⟨by decide +kernel, by decide +kernel⟩, by decide +kernel⟩, big_at 802 (by decide +kernel) rfl, big_at 803 (by decide +kernel) rfl⟩
abbrev mX3_numberBlocks : Md := (yX3_numberBlocks, cX3_numberBlocks, 3, none, [])
theorem mw_X3_numberBlocks : MwV mX3_numberBlocks 0 := ⟨⟨big_at 808 (by decide +kernel) rfl, big_at 97 (by decide +kernel) rfl, ⟨by decide +kernel, by decide +kernel⟩, by decide +kernel⟩, big_at 807 (by decide +kernel) rfl, big_at 22 (by decide +kernel) rfl⟩
abbrev mX6_readCost : Md := (yX6_readCost, cX6_readCost, 4, (some .boolean), [])
theorem mw_X6_readCost : MwV mX6_readCost 0 := ⟨⟨big_at 812 (by decide +kernel) rfl, big_at 99 (by decide +kernel) rfl, ⟨by decide +kernel, by decide +kernel⟩, by decide +kernel⟩, big_at 811 (by decide +kernel) rfl, big_at 23 (by decide +kernel) rfl⟩
abbrev mX6_postpone : Md := (yX6_postpone, cX6_postpone, 2, none, [])
theorem mw_X6_postpone : MwV mX6_postpone 1 := ⟨⟨big_at 816 (by decide +kernel) rfl, big_at 99 (by decide +kernel) rfl, ⟨by decide +kernel, by decide +kernel⟩, by decide +kernel⟩, big_at 815 (by decide +kernel) rfl, big_at 24 (by decide +kernel) rfl⟩
abbrev mX6_readFactor : Md := (yX6_readFactor, cX6_readFactor, 1, (some .boolean), [])
theorem mw_X6_readFactor : MwV mX6_readFactor 0 := ⟨⟨big_at 820 (by decide +kernel) rfl, big_at 99 (by decide +kernel) rfl, ⟨by decide +kernel, by decide +kernel⟩, by decide +kernel⟩, big_at 819 (by decide +kernel) rfl, big_at 25 (by decide +kernel) rfl⟩
abbrev mX6_emit : Md := (yX6_emit, cX6_emit, 2, none, [])
theorem mw_X6_emit : MwV mX6_emit 1 := ⟨⟨big_at 824 (by decide +kernel) rfl, big_at 99 (by decide +kernel) rfl, ⟨by decide +kernel, by decide +kernel⟩, by decide +kernel⟩, big_at 823 (by decide +kernel) rfl, big_at 26 (by decide +kernel) rfl⟩
abbrev mX6_strength : Md := (yX6_strength, cX6_strength, 1, (some .int), [])
theorem mw_X6_strength : MwS mX6_strength 1 := ⟨⟨big_at 827 (by decide +kernel) rfl, big_at 99 (by decide +kernel) rfl, ⟨by decide +kernel, by decide +kernel⟩, by decide +kernel⟩, big_at 826 (by decide +kernel) rfl⟩
abbrev mX6_release : Md := (yX6_release, cX6_release, 2, none, [])
theorem mw_X6_release : MwV mX6_release 1 := ⟨⟨big_at 831 (by decide +kernel) rfl, big_at 99 (by decide +kernel) rfl, ⟨by decide +kernel, by decide +kernel⟩, by decide +kernel⟩, big_at 830 (by decide +kernel) rfl, big_at 27 (by decide +kernel) rfl⟩
abbrev mX6_operation : Md := (yX6_operation, cX6_operation, 1, (some .int), [])
theorem mw_X6_operation : MwS mX6_operation 1 := ⟨⟨big_at 834 (by decide +kernel) rfl, big_at 99 (by decide +kernel) rfl, ⟨by decide +kernel, by decide +kernel⟩, by decide +kernel⟩, big_at 833 (by decide +kernel) rfl⟩
abbrev mJ7_copyOf_59c91 : Md := (yJ7_copyOf_59c91, cJ7_copyOf_59c91, 3, (some (.array .int)), [])
theorem mw_J7_copyOf_59c91 : MwS mJ7_copyOf_59c91 2 := ⟨⟨big_at 837 (by decide +kernel) rfl, big_at 117 (by decide +kernel) rfl, ⟨by decide +kernel, by decide +kernel⟩, by decide +kernel⟩, big_at 836 (by decide +kernel) rfl⟩
abbrev mL_edge : Md := (yL_edge, cL_edge, 5, (some .int), [(0, 10, 13, 19), (0, 10, 17, 13)])
theorem mw_L_edge : MwS mL_edge 4 := ⟨⟨big_at 850 (by decide +kernel) rfl, big_at 95 (by decide +kernel) rfl, ⟨by decide +kernel, by decide +kernel⟩, by decide +kernel⟩, big_at 849 (by decide +kernel) rfl⟩
abbrev mX10_edge : Md := (yX10_edge, cX10_edge, 5, (some .int), [])
theorem mw_X10_edge : MwV mX10_edge 2 := ⟨⟨big_at 855 (by decide +kernel) rfl, big_at 96 (by decide +kernel) rfl, ⟨by decide +kernel, by decide +kernel⟩, by decide +kernel⟩, big_at 853 (by decide +kernel) rfl, big_at 854 (by decide +kernel) rfl⟩
abbrev mX10_requireEdge : Md := (yX10_requireEdge, cX10_requireEdge, 2, none, [])
theorem mw_X10_requireEdge : MwV mX10_requireEdge 1 := ⟨⟨big_at 859 (by decide +kernel) rfl, big_at 96 (by decide +kernel) rfl, ⟨by decide +kernel, by decide +kernel⟩, by decide +kernel⟩, big_at 858 (by decide +kernel) rfl, big_at 28 (by decide +kernel) rfl⟩
abbrev mX0_costOfStep : Md := (yX0_costOfStep, cX0_costOfStep, 5, (some .int), [])
theorem mw_X0_costOfStep : MwV mX0_costOfStep 3 := ⟨⟨big_at 880 (by decide +kernel) rfl, big_at 101 (by decide +kernel) rfl, ⟨by decide +kernel, by decide +kernel⟩, by decide +kernel⟩, big_at 878 (by decide +kernel) rfl, big_at 879 (by decide +kernel) rfl⟩
abbrev mX0_evaluate : Md := (yX0_evaluate, cX0_evaluate, 8, (some .int), [])
theorem mw_X0_evaluate : MwV mX0_evaluate 4 := ⟨⟨big_at 885 (by decide +kernel) rfl, big_at 101 (by decide +kernel) rfl, ⟨by decide +kernel, by decide +kernel⟩, by decide +kernel⟩, big_at 884 (by decide +kernel) rfl, big_at 29 (by decide +kernel) rfl⟩
abbrev mX0_operand : Md := (yX0_operand, cX0_operand, 4, (some .int), [])
theorem mw_X0_operand : MwS mX0_operand 4 := ⟨⟨big_at 888 (by decide +kernel) rfl, big_at 101 (by decide +kernel) rfl, ⟨by decide +kernel, by decide +kernel⟩, by decide +kernel⟩, big_at 887 (by decide +kernel) rfl⟩
abbrev mX0_operate : Md := (yX0_operate, cX0_operate, 7, (some .int), [])
theorem mw_X0_operate : MwS mX0_operate 3 := ⟨⟨big_at 891 (by decide +kernel) rfl, big_at 101 (by decide +kernel) rfl, ⟨by decide +kernel, by decide +kernel⟩, by decide +kernel⟩, big_at 890 (by decide +kernel) rfl⟩
abbrev mJ9_min_f86c9 : Md := (yJ9_min_f86c9, cJ9_min_f86c9, 4, (some .long), [])
theorem mw_J9_min_f86c9 : MwS mJ9_min_f86c9 2 := ⟨⟨big_at 896 (by decide +kernel) rfl, big_at 112 (by decide +kernel) rfl, ⟨by decide +kernel, by decide +kernel⟩, by decide +kernel⟩, big_at 895 (by decide +kernel) rfl⟩
abbrev mJ9_max_f86c9 : Md := (yJ9_max_f86c9, cJ9_max_f86c9, 4, (some .long), [])
theorem mw_J9_max_f86c9 : MwS mJ9_max_f86c9 2 := ⟨⟨big_at 899 (by decide +kernel) rfl, big_at 112 (by decide +kernel) rfl, ⟨by decide +kernel, by decide +kernel⟩, by decide +kernel⟩, big_at 898 (by decide +kernel) rfl⟩
abbrev mL_degree : Md := (yL_degree, cL_degree, 4, (some .int), [(0, 9, 12, 19)])
theorem mw_L_degree : MwS mL_degree 3 := ⟨⟨big_at 904 (by decide +kernel) rfl, big_at 95 (by decide +kernel) rfl, ⟨by decide +kernel, by decide +kernel⟩, by decide +kernel⟩, big_at 903 (by decide +kernel) rfl⟩
abbrev mX10_degree : Md := (yX10_degree, cX10_degree, 2, (some .int), [])
theorem mw_X10_degree : MwV mX10_degree 1 := ⟨⟨big_at 908 (by decide +kernel) rfl, big_at 96 (by decide +kernel) rfl, ⟨by decide +kernel, by decide +kernel⟩, by decide +kernel⟩, big_at 906 (by decide +kernel) rfl, big_at 907 (by decide +kernel) rfl⟩
abbrev mX10_requireVertex : Md := (yX10_requireVertex, cX10_requireVertex, 2, none, [])
theorem mw_X10_requireVertex : MwV mX10_requireVertex 1 := ⟨⟨big_at 912 (by decide +kernel) rfl, big_at 96 (by decide +kernel) rfl, ⟨by decide +kernel, by decide +kernel⟩, by decide +kernel⟩, big_at 911 (by decide +kernel) rfl, big_at 30 (by decide +kernel) rfl⟩
abbrev mL_reachable : Md := (yL_reachable, cL_reachable, 4, (some .int), [(0, 9, 12, 19)])
theorem mw_L_reachable : MwS mL_reachable 3 := ⟨⟨big_at 917 (by decide +kernel) rfl, big_at 95 (by decide +kernel) rfl, ⟨by decide +kernel, by decide +kernel⟩, by decide +kernel⟩, big_at 916 (by decide +kernel) rfl⟩
abbrev mX10_reachable : Md := (yX10_reachable, cX10_reachable, 2, (some .int), [])
theorem mw_X10_reachable : MwV mX10_reachable 1 := ⟨⟨big_at 921 (by decide +kernel) rfl, big_at 96 (by decide +kernel) rfl, ⟨by decide +kernel, by decide +kernel⟩, by decide +kernel⟩, big_at 919 (by decide +kernel) rfl, big_at 920 (by decide +kernel) rfl⟩
abbrev mX3_component : Md := (yX3_component, cX3_component, 5, (some .int), [])
theorem mw_X3_component : MwV mX3_component 1 := ⟨⟨big_at 925 (by decide +kernel) rfl, big_at 97 (by decide +kernel) rfl, ⟨by decide +kernel, by decide +kernel⟩, by decide +kernel⟩, big_at 923 (by decide +kernel) rfl, big_at 924 (by decide +kernel) rfl⟩
abbrev mX3_neighbours : Md := (yX3_neighbours, cX3_neighbours, 4, (some .int), [])
theorem mw_X3_neighbours : MwV mX3_neighbours 1 := ⟨⟨big_at 929 (by decide +kernel) rfl, big_at 97 (by decide +kernel) rfl, ⟨by decide +kernel, by decide +kernel⟩, by decide +kernel⟩, big_at 928 (by decide +kernel) rfl, big_at 31 (by decide +kernel) rfl⟩
abbrev mL_transition : Md := (yL_transition, cL_transition, 6, (some .int), [(0, 12, 15, 19)])
theorem mw_L_transition : MwS mL_transition 5 := ⟨⟨big_at 932 (by decide +kernel) rfl, big_at 95 (by decide +kernel) rfl, ⟨by decide +kernel, by decide +kernel⟩, by decide +kernel⟩, big_at 931 (by decide +kernel) rfl⟩
abbrev mX10_transition : Md := (yX10_transition, cX10_transition, 4, (some .int), [])
theorem mw_X10_transition : MwV mX10_transition 3 := ⟨⟨big_at 936 (by decide +kernel) rfl, big_at 96 (by decide +kernel) rfl, ⟨by decide +kernel, by decide +kernel⟩, by decide +kernel⟩, big_at 934 (by decide +kernel) rfl, big_at 935 (by decide +kernel) rfl⟩
abbrev mX3_stepChance : Md := (yX3_stepChance, cX3_stepChance, 5, none, [])
theorem mw_X3_stepChance : MwV mX3_stepChance 3 := ⟨⟨big_at 940 (by decide +kernel) rfl, big_at 97 (by decide +kernel) rfl, ⟨by decide +kernel, by decide +kernel⟩, by decide +kernel⟩, big_at 938 (by decide +kernel) rfl, big_at 939 (by decide +kernel) rfl⟩
abbrev mX2_put : Md := (yX2_put, cX2_put, 7, none, [])
theorem mw_X2_put : MwV mX2_put 2 := ⟨⟨big_at 945 (by decide +kernel) rfl, big_at 104 (by decide +kernel) rfl, ⟨by decide +kernel, by decide +kernel⟩, by decide +kernel⟩, big_at 943 (by decide +kernel) rfl, big_at 944 (by decide +kernel) rfl⟩
abbrev mX2_commonDivisor : Md := (yX2_commonDivisor, cX2_commonDivisor, 11, (some .long), [])
theorem mw_X2_commonDivisor : MwS mX2_commonDivisor 2 := ⟨⟨big_at 948 (by decide +kernel) rfl, big_at 104 (by decide +kernel) rfl, ⟨by decide +kernel, by decide +kernel⟩, by decide +kernel⟩, big_at 947 (by decide +kernel) rfl⟩
abbrev mJ9_abs_067f4 : Md := (yJ9_abs_067f4, cJ9_abs_067f4, 2, (some .long), [])
theorem mw_J9_abs_067f4 : MwS mJ9_abs_067f4 1 := ⟨⟨big_at 951 (by decide +kernel) rfl, big_at 112 (by decide +kernel) rfl, ⟨by decide +kernel, by decide +kernel⟩, by decide +kernel⟩, big_at 950 (by decide +kernel) rfl⟩
abbrev mX2_part : Md := (yX2_part, cX2_part, 2, (some .long), [])
theorem mw_X2_part : MwV mX2_part 1 := ⟨⟨big_at 955 (by decide +kernel) rfl, big_at 104 (by decide +kernel) rfl, ⟨by decide +kernel, by decide +kernel⟩, by decide +kernel⟩, big_at 953 (by decide +kernel) rfl, big_at 954 (by decide +kernel) rfl⟩
abbrev mL_hittingTime : Md := (yL_hittingTime, cL_hittingTime, 6, (some .int), [(0, 11, 14, 19), (0, 11, 18, 35)])
theorem mw_L_hittingTime : MwS mL_hittingTime 5 := ⟨⟨big_at 958 (by decide +kernel) rfl, big_at 95 (by decide +kernel) rfl, ⟨by decide +kernel, by decide +kernel⟩, by decide +kernel⟩, big_at 957 (by decide +kernel) rfl⟩
abbrev mX10_hittingTime : Md := (yX10_hittingTime, cX10_hittingTime, 4, (some .long), [])
theorem mw_X10_hittingTime : MwV mX10_hittingTime 3 := ⟨⟨big_at 963 (by decide +kernel) rfl, big_at 96 (by decide +kernel) rfl, ⟨by decide +kernel, by decide +kernel⟩, by decide +kernel⟩, big_at 961 (by decide +kernel) rfl, big_at 962 (by decide +kernel) rfl⟩
abbrev mX10_requireWay : Md := (yX10_requireWay, cX10_requireWay, 3, none, [])
theorem mw_X10_requireWay : MwV mX10_requireWay 2 := ⟨⟨big_at 967 (by decide +kernel) rfl, big_at 96 (by decide +kernel) rfl, ⟨by decide +kernel, by decide +kernel⟩, by decide +kernel⟩, big_at 966 (by decide +kernel) rfl, big_at 32 (by decide +kernel) rfl⟩
abbrev mX3_hasWay : Md := (yX3_hasWay, cX3_hasWay, 3, (some .boolean), [])
theorem mw_X3_hasWay : MwV mX3_hasWay 2 := ⟨⟨big_at 971 (by decide +kernel) rfl, big_at 97 (by decide +kernel) rfl, ⟨by decide +kernel, by decide +kernel⟩, by decide +kernel⟩, big_at 969 (by decide +kernel) rfl, big_at 970 (by decide +kernel) rfl⟩
abbrev mX10_gainSteps : Md := (yX10_gainSteps, cX10_gainSteps, 2, none, [])
theorem mw_X10_gainSteps : MwV mX10_gainSteps 0 := ⟨⟨big_at 992 (by decide +kernel) rfl, big_at 96 (by decide +kernel) rfl, ⟨by decide +kernel, by decide +kernel⟩, by decide +kernel⟩, big_at 991 (by decide +kernel) rfl, big_at 33 (by decide +kernel) rfl⟩
abbrev mX1_meanUntil : Md := (yX1_meanUntil, cX1_meanUntil, 6, none, [])
theorem mw_X1_meanUntil : MwV mX1_meanUntil 5 := ⟨⟨big_at 996 (by decide +kernel) rfl, big_at 103 (by decide +kernel) rfl, ⟨by decide +kernel, by decide +kernel⟩, by decide +kernel⟩, big_at 994 (by decide +kernel) rfl, big_at 995 (by decide +kernel) rfl⟩
abbrev mX1_solve : Md := (yX1_solve, cX1_solve, 6, none, [])
theorem mw_X1_solve : MwV mX1_solve 5 := ⟨⟨big_at 1002 (by decide +kernel) rfl, big_at 103 (by decide +kernel) rfl, ⟨by decide +kernel, by decide +kernel⟩, by decide +kernel⟩, big_at 1000 (by decide +kernel) rfl, big_at 1001 (by decide +kernel) rfl⟩
abbrev mL_hittingCost : Md := (yL_hittingCost, cL_hittingCost, 6, (some .int), [(0, 11, 14, 19), (0, 11, 18, 35)])
theorem mw_L_hittingCost : MwS mL_hittingCost 5 := ⟨⟨big_at 1005 (by decide +kernel) rfl, big_at 95 (by decide +kernel) rfl, ⟨by decide +kernel, by decide +kernel⟩, by decide +kernel⟩, big_at 1004 (by decide +kernel) rfl⟩
abbrev mX10_hittingCost : Md := (yX10_hittingCost, cX10_hittingCost, 4, (some .long), [])
theorem mw_X10_hittingCost : MwV mX10_hittingCost 3 := ⟨⟨big_at 1009 (by decide +kernel) rfl, big_at 96 (by decide +kernel) rfl, ⟨by decide +kernel, by decide +kernel⟩, by decide +kernel⟩, big_at 1007 (by decide +kernel) rfl, big_at 1008 (by decide +kernel) rfl⟩
abbrev mX10_gainCosts : Md := (yX10_gainCosts, cX10_gainCosts, 5, none, [])
theorem mw_X10_gainCosts : MwV mX10_gainCosts 0 := ⟨⟨big_at 1013 (by decide +kernel) rfl, big_at 96 (by decide +kernel) rfl, ⟨by decide +kernel, by decide +kernel⟩, by decide +kernel⟩, big_at 1012 (by decide +kernel) rfl, big_at 34 (by decide +kernel) rfl⟩
abbrev mX0_fillTable : Md := (yX0_fillTable, cX0_fillTable, 5, none, [])
theorem mw_X0_fillTable : MwV mX0_fillTable 1 := ⟨⟨big_at 1017 (by decide +kernel) rfl, big_at 101 (by decide +kernel) rfl, ⟨by decide +kernel, by decide +kernel⟩, by decide +kernel⟩, big_at 1015 (by decide +kernel) rfl, big_at 1016 (by decide +kernel) rfl⟩
abbrev mX0_tabled : Md := (yX0_tabled, cX0_tabled, 3, (some .int), [])
theorem mw_X0_tabled : MwV mX0_tabled 2 := ⟨⟨big_at 1023 (by decide +kernel) rfl, big_at 101 (by decide +kernel) rfl, ⟨by decide +kernel, by decide +kernel⟩, by decide +kernel⟩, big_at 1021 (by decide +kernel) rfl, big_at 1022 (by decide +kernel) rfl⟩
abbrev mL_commuteTime : Md := (yL_commuteTime, cL_commuteTime, 6, (some .int), [(0, 11, 14, 19), (0, 11, 18, 35)])
theorem mw_L_commuteTime : MwS mL_commuteTime 5 := ⟨⟨big_at 1026 (by decide +kernel) rfl, big_at 95 (by decide +kernel) rfl, ⟨by decide +kernel, by decide +kernel⟩, by decide +kernel⟩, big_at 1025 (by decide +kernel) rfl⟩
abbrev mX10_commuteTime : Md := (yX10_commuteTime, cX10_commuteTime, 4, (some .long), [])
theorem mw_X10_commuteTime : MwV mX10_commuteTime 3 := ⟨⟨big_at 1030 (by decide +kernel) rfl, big_at 96 (by decide +kernel) rfl, ⟨by decide +kernel, by decide +kernel⟩, by decide +kernel⟩, big_at 1028 (by decide +kernel) rfl, big_at 1029 (by decide +kernel) rfl⟩
abbrev mX10_findCommuteTime : Md := (yX10_findCommuteTime, cX10_findCommuteTime, 3, none, [])
theorem mw_X10_findCommuteTime : MwV mX10_findCommuteTime 2 := ⟨⟨big_at 1034 (by decide +kernel) rfl, big_at 96 (by decide +kernel) rfl, ⟨by decide +kernel, by decide +kernel⟩, by decide +kernel⟩, big_at 1033 (by decide +kernel) rfl, big_at 35 (by decide +kernel) rfl⟩
abbrev mX2_add : Md := (yX2_add, cX2_add, 2, none, [])
theorem mw_X2_add : MwV mX2_add 1 := ⟨⟨big_at 1038 (by decide +kernel) rfl, big_at 104 (by decide +kernel) rfl, ⟨by decide +kernel, by decide +kernel⟩, by decide +kernel⟩, big_at 1036 (by decide +kernel) rfl, big_at 1037 (by decide +kernel) rfl⟩
abbrev mL_resistance : Md := (yL_resistance, cL_resistance, 6, (some .int), [(0, 11, 14, 19), (0, 11, 18, 35)])
theorem mw_L_resistance : MwS mL_resistance 5 := ⟨⟨big_at 1042 (by decide +kernel) rfl, big_at 95 (by decide +kernel) rfl, ⟨by decide +kernel, by decide +kernel⟩, by decide +kernel⟩, big_at 1041 (by decide +kernel) rfl⟩
abbrev mX10_resistance : Md := (yX10_resistance, cX10_resistance, 4, (some .long), [])
theorem mw_X10_resistance : MwV mX10_resistance 3 := ⟨⟨big_at 1046 (by decide +kernel) rfl, big_at 96 (by decide +kernel) rfl, ⟨by decide +kernel, by decide +kernel⟩, by decide +kernel⟩, big_at 1044 (by decide +kernel) rfl, big_at 1045 (by decide +kernel) rfl⟩
abbrev mX10_sumOfDegrees : Md := (yX10_sumOfDegrees, cX10_sumOfDegrees, 5, (some .long), [])
theorem mw_X10_sumOfDegrees : MwV mX10_sumOfDegrees 1 := ⟨⟨big_at 1050 (by decide +kernel) rfl, big_at 96 (by decide +kernel) rfl, ⟨by decide +kernel, by decide +kernel⟩, by decide +kernel⟩, big_at 1049 (by decide +kernel) rfl, big_at 36 (by decide +kernel) rfl⟩
abbrev mX2_divideBy : Md := (yX2_divideBy, cX2_divideBy, 3, none, [])
theorem mw_X2_divideBy : MwV mX2_divideBy 1 := ⟨⟨big_at 1054 (by decide +kernel) rfl, big_at 104 (by decide +kernel) rfl, ⟨by decide +kernel, by decide +kernel⟩, by decide +kernel⟩, big_at 1052 (by decide +kernel) rfl, big_at 1053 (by decide +kernel) rfl⟩
abbrev mL_absorption : Md := (yL_absorption, cL_absorption, 6, (some .int), [(0, 11, 14, 19), (0, 11, 18, 13), (0, 11, 22, 35)])
theorem mw_L_absorption : MwS mL_absorption 5 := ⟨⟨big_at 1057 (by decide +kernel) rfl, big_at 95 (by decide +kernel) rfl, ⟨by decide +kernel, by decide +kernel⟩, by decide +kernel⟩, big_at 1056 (by decide +kernel) rfl⟩
abbrev mX10_absorption : Md := (yX10_absorption, cX10_absorption, 4, (some .long), [])
theorem mw_X10_absorption : MwV mX10_absorption 3 := ⟨⟨big_at 1061 (by decide +kernel) rfl, big_at 96 (by decide +kernel) rfl, ⟨by decide +kernel, by decide +kernel⟩, by decide +kernel⟩, big_at 1059 (by decide +kernel) rfl, big_at 1060 (by decide +kernel) rfl⟩
abbrev mX10_requireAbsorbingWay : Md := (yX10_requireAbsorbingWay, cX10_requireAbsorbingWay, 2, none, [])
theorem mw_X10_requireAbsorbingWay : MwV mX10_requireAbsorbingWay 1 := ⟨⟨big_at 1067 (by decide +kernel) rfl, big_at 96 (by decide +kernel) rfl, ⟨by decide +kernel, by decide +kernel⟩, by decide +kernel⟩, big_at 1066 (by decide +kernel) rfl, big_at 37 (by decide +kernel) rfl⟩
abbrev mX10_findAbsorption : Md := (yX10_findAbsorption, cX10_findAbsorption, 4, none, [])
theorem mw_X10_findAbsorption : MwV mX10_findAbsorption 2 := ⟨⟨big_at 1072 (by decide +kernel) rfl, big_at 96 (by decide +kernel) rfl, ⟨by decide +kernel, by decide +kernel⟩, by decide +kernel⟩, big_at 1071 (by decide +kernel) rfl, big_at 38 (by decide +kernel) rfl⟩
abbrev mL_absorptionTime : Md := (yL_absorptionTime, cL_absorptionTime, 5, (some .int), [(0, 9, 12, 19), (0, 9, 16, 35)])
theorem mw_L_absorptionTime : MwS mL_absorptionTime 4 := ⟨⟨big_at 1077 (by decide +kernel) rfl, big_at 95 (by decide +kernel) rfl, ⟨by decide +kernel, by decide +kernel⟩, by decide +kernel⟩, big_at 1076 (by decide +kernel) rfl⟩
abbrev mX10_absorptionTime : Md := (yX10_absorptionTime, cX10_absorptionTime, 3, (some .long), [])
theorem mw_X10_absorptionTime : MwV mX10_absorptionTime 2 := ⟨⟨big_at 1081 (by decide +kernel) rfl, big_at 96 (by decide +kernel) rfl, ⟨by decide +kernel, by decide +kernel⟩, by decide +kernel⟩, big_at 1079 (by decide +kernel) rfl, big_at 1080 (by decide +kernel) rfl⟩
abbrev mL_blockOf : Md := (yL_blockOf, cL_blockOf, 4, (some .int), [(0, 9, 12, 19)])
theorem mw_L_blockOf : MwS mL_blockOf 3 := ⟨⟨big_at 1084 (by decide +kernel) rfl, big_at 95 (by decide +kernel) rfl, ⟨by decide +kernel, by decide +kernel⟩, by decide +kernel⟩, big_at 1083 (by decide +kernel) rfl⟩
abbrev mX10_blockOf : Md := (yX10_blockOf, cX10_blockOf, 2, (some .int), [])
theorem mw_X10_blockOf : MwV mX10_blockOf 1 := ⟨⟨big_at 1088 (by decide +kernel) rfl, big_at 96 (by decide +kernel) rfl, ⟨by decide +kernel, by decide +kernel⟩, by decide +kernel⟩, big_at 1086 (by decide +kernel) rfl, big_at 1087 (by decide +kernel) rfl⟩
abbrev mL_lumped : Md := (yL_lumped, cL_lumped, 6, (some .int), [(0, 12, 15, 19), (0, 12, 19, 35)])
theorem mw_L_lumped : MwS mL_lumped 5 := ⟨⟨big_at 1091 (by decide +kernel) rfl, big_at 95 (by decide +kernel) rfl, ⟨by decide +kernel, by decide +kernel⟩, by decide +kernel⟩, big_at 1090 (by decide +kernel) rfl⟩
abbrev mX10_lumped : Md := (yX10_lumped, cX10_lumped, 4, (some .int), [])
theorem mw_X10_lumped : MwV mX10_lumped 3 := ⟨⟨big_at 1095 (by decide +kernel) rfl, big_at 96 (by decide +kernel) rfl, ⟨by decide +kernel, by decide +kernel⟩, by decide +kernel⟩, big_at 1093 (by decide +kernel) rfl, big_at 1094 (by decide +kernel) rfl⟩
abbrev mX10_requireBlock : Md := (yX10_requireBlock, cX10_requireBlock, 2, none, [])
theorem mw_X10_requireBlock : MwV mX10_requireBlock 1 := ⟨⟨big_at 1099 (by decide +kernel) rfl, big_at 96 (by decide +kernel) rfl, ⟨by decide +kernel, by decide +kernel⟩, by decide +kernel⟩, big_at 1098 (by decide +kernel) rfl, big_at 39 (by decide +kernel) rfl⟩
abbrev mX10_requireLumpable : Md := (yX10_requireLumpable, cX10_requireLumpable, 1, none, [])
theorem mw_X10_requireLumpable : MwV mX10_requireLumpable 0 := ⟨⟨big_at 1104 (by decide +kernel) rfl, big_at 96 (by decide +kernel) rfl, ⟨by decide +kernel, by decide +kernel⟩, by decide +kernel⟩, big_at 1103 (by decide +kernel) rfl, big_at 40 (by decide +kernel) rfl⟩
abbrev mX5_lumpBlocks : Md := (yX5_lumpBlocks, cX5_lumpBlocks, 5, none, [])
theorem mw_X5_lumpBlocks : MwV mX5_lumpBlocks 1 := ⟨⟨big_at 1109 (by decide +kernel) rfl, big_at 102 (by decide +kernel) rfl, ⟨by decide +kernel, by decide +kernel⟩, by decide +kernel⟩, big_at 1107 (by decide +kernel) rfl, big_at 1108 (by decide +kernel) rfl⟩
abbrev mJ7_fill_d0a16 : Md := (yJ7_fill_d0a16, cJ7_fill_d0a16, 5, none, [])
theorem mw_J7_fill_d0a16 : MwS mJ7_fill_d0a16 2 := ⟨⟨big_at 1113 (by decide +kernel) rfl, big_at 117 (by decide +kernel) rfl, ⟨by decide +kernel, by decide +kernel⟩, by decide +kernel⟩, big_at 1112 (by decide +kernel) rfl⟩
abbrev mX5_blockChance : Md := (yX5_blockChance, cX5_blockChance, 6, none, [])
theorem mw_X5_blockChance : MwV mX5_blockChance 3 := ⟨⟨big_at 1118 (by decide +kernel) rfl, big_at 102 (by decide +kernel) rfl, ⟨by decide +kernel, by decide +kernel⟩, by decide +kernel⟩, big_at 1116 (by decide +kernel) rfl, big_at 1117 (by decide +kernel) rfl⟩
abbrev mL_lumpedTime : Md := (yL_lumpedTime, cL_lumpedTime, 6, (some .int), [(0, 11, 14, 19), (0, 11, 18, 35)])
theorem mw_L_lumpedTime : MwS mL_lumpedTime 5 := ⟨⟨big_at 1122 (by decide +kernel) rfl, big_at 95 (by decide +kernel) rfl, ⟨by decide +kernel, by decide +kernel⟩, by decide +kernel⟩, big_at 1121 (by decide +kernel) rfl⟩
abbrev mX10_lumpedTime : Md := (yX10_lumpedTime, cX10_lumpedTime, 4, (some .long), [])
theorem mw_X10_lumpedTime : MwV mX10_lumpedTime 3 := ⟨⟨big_at 1126 (by decide +kernel) rfl, big_at 96 (by decide +kernel) rfl, ⟨by decide +kernel, by decide +kernel⟩, by decide +kernel⟩, big_at 1124 (by decide +kernel) rfl, big_at 1125 (by decide +kernel) rfl⟩
abbrev mL_after : Md := (yL_after, cL_after, 6, (some .int), [(0, 12, 15, 19), (0, 12, 19, 13)])
theorem mw_L_after : MwS mL_after 5 := ⟨⟨big_at 1130 (by decide +kernel) rfl, big_at 95 (by decide +kernel) rfl, ⟨by decide +kernel, by decide +kernel⟩, by decide +kernel⟩, big_at 1129 (by decide +kernel) rfl⟩
abbrev mX10_after : Md := (yX10_after, cX10_after, 4, (some .float), [])
theorem mw_X10_after : MwV mX10_after 3 := ⟨⟨big_at 1134 (by decide +kernel) rfl, big_at 96 (by decide +kernel) rfl, ⟨by decide +kernel, by decide +kernel⟩, by decide +kernel⟩, big_at 1132 (by decide +kernel) rfl, big_at 1133 (by decide +kernel) rfl⟩
abbrev mX7_chanceAfter : Md := (yX7_chanceAfter, cX7_chanceAfter, 7, (some .float), [])
theorem mw_X7_chanceAfter : MwV mX7_chanceAfter 4 := ⟨⟨big_at 1139 (by decide +kernel) rfl, big_at 106 (by decide +kernel) rfl, ⟨by decide +kernel, by decide +kernel⟩, by decide +kernel⟩, big_at 1137 (by decide +kernel) rfl, big_at 1138 (by decide +kernel) rfl⟩
abbrev mX7_fillChances : Md := (yX7_fillChances, cX7_fillChances, 4, none, [])
theorem mw_X7_fillChances : MwV mX7_fillChances 1 := ⟨⟨big_at 1143 (by decide +kernel) rfl, big_at 106 (by decide +kernel) rfl, ⟨by decide +kernel, by decide +kernel⟩, by decide +kernel⟩, big_at 1142 (by decide +kernel) rfl, big_at 41 (by decide +kernel) rfl⟩
abbrev mX7_chanceAt : Md := (yX7_chanceAt, cX7_chanceAt, 6, (some .float), [])
theorem mw_X7_chanceAt : MwV mX7_chanceAt 2 := ⟨⟨big_at 1148 (by decide +kernel) rfl, big_at 106 (by decide +kernel) rfl, ⟨by decide +kernel, by decide +kernel⟩, by decide +kernel⟩, big_at 1147 (by decide +kernel) rfl, big_at 42 (by decide +kernel) rfl⟩
abbrev mL_walk : Md := (yL_walk, cL_walk, 7, (some .int), [(0, 14, 17, 19), (0, 14, 21, 13)])
theorem mw_L_walk : MwS mL_walk 6 := ⟨⟨big_at 1152 (by decide +kernel) rfl, big_at 95 (by decide +kernel) rfl, ⟨by decide +kernel, by decide +kernel⟩, by decide +kernel⟩, big_at 1151 (by decide +kernel) rfl⟩
abbrev mX10_walk : Md := (yX10_walk, cX10_walk, 5, (some .int), [])
theorem mw_X10_walk : MwV mX10_walk 4 := ⟨⟨big_at 1156 (by decide +kernel) rfl, big_at 96 (by decide +kernel) rfl, ⟨by decide +kernel, by decide +kernel⟩, by decide +kernel⟩, big_at 1154 (by decide +kernel) rfl, big_at 1155 (by decide +kernel) rfl⟩
abbrev mX8_go : Md := (yX8_go, cX8_go, 8, none, [])
theorem mw_X8_go : MwV mX8_go 5 := ⟨⟨big_at 1163 (by decide +kernel) rfl, big_at 105 (by decide +kernel) rfl, ⟨by decide +kernel, by decide +kernel⟩, by decide +kernel⟩, big_at 1161 (by decide +kernel) rfl, big_at 1162 (by decide +kernel) rfl⟩
abbrev mX8_drawStep : Md := (yX8_drawStep, cX8_drawStep, 8, (some .int), [])
theorem mw_X8_drawStep : MwV mX8_drawStep 1 := ⟨⟨big_at 1168 (by decide +kernel) rfl, big_at 105 (by decide +kernel) rfl, ⟨by decide +kernel, by decide +kernel⟩, by decide +kernel⟩, big_at 1167 (by decide +kernel) rfl, big_at 43 (by decide +kernel) rfl⟩
abbrev mX8_told : Md := (yX8_told, cX8_told, 2, (some .int), [])
theorem mw_X8_told : MwV mX8_told 1 := ⟨⟨big_at 1179 (by decide +kernel) rfl, big_at 105 (by decide +kernel) rfl, ⟨by decide +kernel, by decide +kernel⟩, by decide +kernel⟩, big_at 1177 (by decide +kernel) rfl, big_at 1178 (by decide +kernel) rfl⟩
abbrev mL_setWeight : Md := (yL_setWeight, cL_setWeight, 5, (some .int), [(0, 10, 13, 19), (0, 10, 17, 13)])
theorem mw_L_setWeight : MwS mL_setWeight 4 := ⟨⟨big_at 1182 (by decide +kernel) rfl, big_at 95 (by decide +kernel) rfl, ⟨by decide +kernel, by decide +kernel⟩, by decide +kernel⟩, big_at 1181 (by decide +kernel) rfl⟩
abbrev mX10_setWeight : Md := (yX10_setWeight, cX10_setWeight, 6, (some .int), [])
theorem mw_X10_setWeight : MwV mX10_setWeight 2 := ⟨⟨big_at 1186 (by decide +kernel) rfl, big_at 96 (by decide +kernel) rfl, ⟨by decide +kernel, by decide +kernel⟩, by decide +kernel⟩, big_at 1184 (by decide +kernel) rfl, big_at 1185 (by decide +kernel) rfl⟩
abbrev mX10_requireWeight : Md := (yX10_requireWeight, cX10_requireWeight, 2, none, [])
theorem mw_X10_requireWeight : MwV mX10_requireWeight 1 := ⟨⟨big_at 1190 (by decide +kernel) rfl, big_at 96 (by decide +kernel) rfl, ⟨by decide +kernel, by decide +kernel⟩, by decide +kernel⟩, big_at 1189 (by decide +kernel) rfl, big_at 44 (by decide +kernel) rfl⟩
abbrev mL_addEdge : Md := (yL_addEdge, cL_addEdge, 6, (some .int), [(0, 12, 15, 19), (0, 12, 19, 13), (0, 12, 23, 35)])
theorem mw_L_addEdge : MwS mL_addEdge 5 := ⟨⟨big_at 1195 (by decide +kernel) rfl, big_at 95 (by decide +kernel) rfl, ⟨by decide +kernel, by decide +kernel⟩, by decide +kernel⟩, big_at 1194 (by decide +kernel) rfl⟩
abbrev mX10_addEdge : Md := (yX10_addEdge, cX10_addEdge, 4, (some .int), [])
theorem mw_X10_addEdge : MwV mX10_addEdge 3 := ⟨⟨big_at 1199 (by decide +kernel) rfl, big_at 96 (by decide +kernel) rfl, ⟨by decide +kernel, by decide +kernel⟩, by decide +kernel⟩, big_at 1197 (by decide +kernel) rfl, big_at 1198 (by decide +kernel) rfl⟩
abbrev mL_removeEdge : Md := (yL_removeEdge, cL_removeEdge, 4, (some .int), [(0, 9, 12, 19)])
theorem mw_L_removeEdge : MwS mL_removeEdge 3 := ⟨⟨big_at 1205 (by decide +kernel) rfl, big_at 95 (by decide +kernel) rfl, ⟨by decide +kernel, by decide +kernel⟩, by decide +kernel⟩, big_at 1204 (by decide +kernel) rfl⟩
abbrev mX10_removeEdge : Md := (yX10_removeEdge, cX10_removeEdge, 2, (some .int), [])
theorem mw_X10_removeEdge : MwV mX10_removeEdge 1 := ⟨⟨big_at 1209 (by decide +kernel) rfl, big_at 96 (by decide +kernel) rfl, ⟨by decide +kernel, by decide +kernel⟩, by decide +kernel⟩, big_at 1207 (by decide +kernel) rfl, big_at 1208 (by decide +kernel) rfl⟩
abbrev mX3_dropEdge : Md := (yX3_dropEdge, cX3_dropEdge, 3, none, [])
theorem mw_X3_dropEdge : MwV mX3_dropEdge 1 := ⟨⟨big_at 1213 (by decide +kernel) rfl, big_at 97 (by decide +kernel) rfl, ⟨by decide +kernel, by decide +kernel⟩, by decide +kernel⟩, big_at 1211 (by decide +kernel) rfl, big_at 1212 (by decide +kernel) rfl⟩
abbrev mL_setAbsorbing : Md := (yL_setAbsorbing, cL_setAbsorbing, 5, (some .int), [(0, 10, 13, 19)])
theorem mw_L_setAbsorbing : MwS mL_setAbsorbing 4 := ⟨⟨big_at 1216 (by decide +kernel) rfl, big_at 95 (by decide +kernel) rfl, ⟨by decide +kernel, by decide +kernel⟩, by decide +kernel⟩, big_at 1215 (by decide +kernel) rfl⟩
abbrev mX10_setAbsorbing : Md := (yX10_setAbsorbing, cX10_setAbsorbing, 4, (some .int), [])
theorem mw_X10_setAbsorbing : MwV mX10_setAbsorbing 2 := ⟨⟨big_at 1220 (by decide +kernel) rfl, big_at 96 (by decide +kernel) rfl, ⟨by decide +kernel, by decide +kernel⟩, by decide +kernel⟩, big_at 1218 (by decide +kernel) rfl, big_at 1219 (by decide +kernel) rfl⟩
abbrev mL_join : Md := (yL_join, cL_join, 5, (some .int), [(0, 10, 13, 19)])
theorem mw_L_join : MwS mL_join 4 := ⟨⟨big_at 1223 (by decide +kernel) rfl, big_at 95 (by decide +kernel) rfl, ⟨by decide +kernel, by decide +kernel⟩, by decide +kernel⟩, big_at 1222 (by decide +kernel) rfl⟩
abbrev mX10_join : Md := (yX10_join, cX10_join, 3, (some .int), [])
theorem mw_X10_join : MwV mX10_join 2 := ⟨⟨big_at 1227 (by decide +kernel) rfl, big_at 96 (by decide +kernel) rfl, ⟨by decide +kernel, by decide +kernel⟩, by decide +kernel⟩, big_at 1225 (by decide +kernel) rfl, big_at 1226 (by decide +kernel) rfl⟩
abbrev mL_separate : Md := (yL_separate, cL_separate, 4, (some .int), [(0, 9, 12, 19)])
theorem mw_L_separate : MwS mL_separate 3 := ⟨⟨big_at 1231 (by decide +kernel) rfl, big_at 95 (by decide +kernel) rfl, ⟨by decide +kernel, by decide +kernel⟩, by decide +kernel⟩, big_at 1230 (by decide +kernel) rfl⟩
abbrev mX10_separate : Md := (yX10_separate, cX10_separate, 2, (some .int), [])
theorem mw_X10_separate : MwV mX10_separate 1 := ⟨⟨big_at 1235 (by decide +kernel) rfl, big_at 96 (by decide +kernel) rfl, ⟨by decide +kernel, by decide +kernel⟩, by decide +kernel⟩, big_at 1233 (by decide +kernel) rfl, big_at 1234 (by decide +kernel) rfl⟩
abbrev mX3_isolateInBlock : Md := (yX3_isolateInBlock, cX3_isolateInBlock, 2, none, [])
theorem mw_X3_isolateInBlock : MwV mX3_isolateInBlock 1 := ⟨⟨big_at 1239 (by decide +kernel) rfl, big_at 97 (by decide +kernel) rfl, ⟨by decide +kernel, by decide +kernel⟩, by decide +kernel⟩, big_at 1237 (by decide +kernel) rfl, big_at 1238 (by decide +kernel) rfl⟩
abbrev mX11_init : Md := (yX11_init, cX11_init, 1, none, [])
theorem mw_X11_init : MwI mX11_init 0 := ⟨⟨big_at 1244 (by decide +kernel) rfl, big_at 107 (by decide +kernel) rfl, ⟨by decide +kernel, by decide +kernel⟩, by decide +kernel⟩, rfl, big_at 1243 (by decide +kernel) rfl⟩
abbrev mX11_thrown : Md := (yX11_thrown, cX11_thrown, 1, (some .int), [])
theorem mw_X11_thrown : MwV mX11_thrown 0 := ⟨⟨big_at 1336 (by decide +kernel) rfl, big_at 107 (by decide +kernel) rfl, ⟨by decide +kernel, by decide +kernel⟩, by decide +kernel⟩, big_at 1334 (by decide +kernel) rfl, big_at 1335 (by decide +kernel) rfl⟩
abbrev mX11_append : Md := (yX11_append, cX11_append, 8, (some .int), [])
theorem mw_X11_append : MwV mX11_append 5 := ⟨⟨big_at 1340 (by decide +kernel) rfl, big_at 107 (by decide +kernel) rfl, ⟨by decide +kernel, by decide +kernel⟩, by decide +kernel⟩, big_at 1338 (by decide +kernel) rfl, big_at 1339 (by decide +kernel) rfl⟩
abbrev mX11_load : Md := (yX11_load, cX11_load, 3, (some .int), [])
theorem mw_X11_load : MwV mX11_load 1 := ⟨⟨big_at 1344 (by decide +kernel) rfl, big_at 107 (by decide +kernel) rfl, ⟨by decide +kernel, by decide +kernel⟩, by decide +kernel⟩, big_at 1342 (by decide +kernel) rfl, big_at 1343 (by decide +kernel) rfl⟩
abbrev mX11_isIn : Md := (yX11_isIn, cX11_isIn, 6, (some .boolean), [])
theorem mw_X11_isIn : MwS mX11_isIn 3 := ⟨⟨big_at 1347 (by decide +kernel) rfl, big_at 107 (by decide +kernel) rfl, ⟨by decide +kernel, by decide +kernel⟩, by decide +kernel⟩, big_at 1346 (by decide +kernel) rfl⟩
abbrev mX11_right : Md := (yX11_right, cX11_right, 3, (some .boolean), [])
theorem mw_X11_right : MwV mX11_right 2 := ⟨⟨big_at 1351 (by decide +kernel) rfl, big_at 107 (by decide +kernel) rfl, ⟨by decide +kernel, by decide +kernel⟩, by decide +kernel⟩, big_at 1350 (by decide +kernel) rfl, big_at 45 (by decide +kernel) rfl⟩
abbrev mX11_texts : Md := (yX11_texts, cX11_texts, 2, none, [])
theorem mw_X11_texts : MwV mX11_texts 0 := ⟨⟨big_at 1355 (by decide +kernel) rfl, big_at 107 (by decide +kernel) rfl, ⟨by decide +kernel, by decide +kernel⟩, by decide +kernel⟩, big_at 1354 (by decide +kernel) rfl, big_at 46 (by decide +kernel) rfl⟩
abbrev mX11_takes : Md := (yX11_takes, cX11_takes, 5, (some .boolean), [])
theorem mw_X11_takes : MwV mX11_takes 1 := ⟨⟨big_at 1360 (by decide +kernel) rfl, big_at 107 (by decide +kernel) rfl, ⟨by decide +kernel, by decide +kernel⟩, by decide +kernel⟩, big_at 1359 (by decide +kernel) rfl, big_at 47 (by decide +kernel) rfl⟩
abbrev mX11_sees : Md := (yX11_sees, cX11_sees, 1, (some .int), [])
theorem mw_X11_sees : MwV mX11_sees 0 := ⟨⟨big_at 1364 (by decide +kernel) rfl, big_at 107 (by decide +kernel) rfl, ⟨by decide +kernel, by decide +kernel⟩, by decide +kernel⟩, big_at 1363 (by decide +kernel) rfl, big_at 48 (by decide +kernel) rfl⟩
abbrev mX11_fails : Md := (yX11_fails, cX11_fails, 3, none, [])
theorem mw_X11_fails : MwV mX11_fails 2 := ⟨⟨big_at 1370 (by decide +kernel) rfl, big_at 107 (by decide +kernel) rfl, ⟨by decide +kernel, by decide +kernel⟩, by decide +kernel⟩, big_at 1369 (by decide +kernel) rfl, big_at 49 (by decide +kernel) rfl⟩
abbrev mX11_reads : Md := (yX11_reads, cX11_reads, 4, (some .int), [])
theorem mw_X11_reads : MwV mX11_reads 2 := ⟨⟨big_at 1374 (by decide +kernel) rfl, big_at 107 (by decide +kernel) rfl, ⟨by decide +kernel, by decide +kernel⟩, by decide +kernel⟩, big_at 1373 (by decide +kernel) rfl, big_at 50 (by decide +kernel) rfl⟩
abbrev mX11_isDigit : Md := (yX11_isDigit, cX11_isDigit, 1, (some .boolean), [])
theorem mw_X11_isDigit : MwV mX11_isDigit 0 := ⟨⟨big_at 1378 (by decide +kernel) rfl, big_at 107 (by decide +kernel) rfl, ⟨by decide +kernel, by decide +kernel⟩, by decide +kernel⟩, big_at 1377 (by decide +kernel) rfl, big_at 51 (by decide +kernel) rfl⟩
abbrev mX11_wants : Md := (yX11_wants, cX11_wants, 2, none, [])
theorem mw_X11_wants : MwV mX11_wants 1 := ⟨⟨big_at 1384 (by decide +kernel) rfl, big_at 107 (by decide +kernel) rfl, ⟨by decide +kernel, by decide +kernel⟩, by decide +kernel⟩, big_at 1383 (by decide +kernel) rfl, big_at 52 (by decide +kernel) rfl⟩
abbrev mX11_statement : Md := (yX11_statement, cX11_statement, 2, none, [])
theorem mw_X11_statement : MwV mX11_statement 0 := ⟨⟨big_at 1388 (by decide +kernel) rfl, big_at 107 (by decide +kernel) rfl, ⟨by decide +kernel, by decide +kernel⟩, by decide +kernel⟩, big_at 1387 (by decide +kernel) rfl, big_at 53 (by decide +kernel) rfl⟩
abbrev mX11_edgeLine : Md := (yX11_edgeLine, cX11_edgeLine, 5, none, [])
theorem mw_X11_edgeLine : MwV mX11_edgeLine 0 := ⟨⟨big_at 1393 (by decide +kernel) rfl, big_at 107 (by decide +kernel) rfl, ⟨by decide +kernel, by decide +kernel⟩, by decide +kernel⟩, big_at 1392 (by decide +kernel) rfl, big_at 54 (by decide +kernel) rfl⟩
abbrev mX11_readsVertex : Md := (yX11_readsVertex, cX11_readsVertex, 1, (some .int), [])
theorem mw_X11_readsVertex : MwV mX11_readsVertex 0 := ⟨⟨big_at 1397 (by decide +kernel) rfl, big_at 107 (by decide +kernel) rfl, ⟨by decide +kernel, by decide +kernel⟩, by decide +kernel⟩, big_at 1396 (by decide +kernel) rfl, big_at 55 (by decide +kernel) rfl⟩
abbrev mX11_edgeIn : Md := (yX11_edgeIn, cX11_edgeIn, 6, (some .int), [])
theorem mw_X11_edgeIn : MwS mX11_edgeIn 5 := ⟨⟨big_at 1400 (by decide +kernel) rfl, big_at 107 (by decide +kernel) rfl, ⟨by decide +kernel, by decide +kernel⟩, by decide +kernel⟩, big_at 1399 (by decide +kernel) rfl⟩
abbrev mX11_absorbLine : Md := (yX11_absorbLine, cX11_absorbLine, 2, none, [])
theorem mw_X11_absorbLine : MwV mX11_absorbLine 0 := ⟨⟨big_at 1406 (by decide +kernel) rfl, big_at 107 (by decide +kernel) rfl, ⟨by decide +kernel, by decide +kernel⟩, by decide +kernel⟩, big_at 1405 (by decide +kernel) rfl, big_at 56 (by decide +kernel) rfl⟩
abbrev mX11_joinLine : Md := (yX11_joinLine, cX11_joinLine, 3, none, [])
theorem mw_X11_joinLine : MwV mX11_joinLine 0 := ⟨⟨big_at 1411 (by decide +kernel) rfl, big_at 107 (by decide +kernel) rfl, ⟨by decide +kernel, by decide +kernel⟩, by decide +kernel⟩, big_at 1410 (by decide +kernel) rfl, big_at 57 (by decide +kernel) rfl⟩
abbrev mX11_relabels : Md := (yX11_relabels, cX11_relabels, 6, none, [])
theorem mw_X11_relabels : MwS mX11_relabels 5 := ⟨⟨big_at 1414 (by decide +kernel) rfl, big_at 107 (by decide +kernel) rfl, ⟨by decide +kernel, by decide +kernel⟩, by decide +kernel⟩, big_at 1413 (by decide +kernel) rfl⟩
abbrev mX11_sum : Md := (yX11_sum, cX11_sum, 2, none, [])
theorem mw_X11_sum : MwV mX11_sum 0 := ⟨⟨big_at 1419 (by decide +kernel) rfl, big_at 107 (by decide +kernel) rfl, ⟨by decide +kernel, by decide +kernel⟩, by decide +kernel⟩, big_at 1418 (by decide +kernel) rfl, big_at 58 (by decide +kernel) rfl⟩
abbrev mX11_term : Md := (yX11_term, cX11_term, 2, none, [])
theorem mw_X11_term : MwV mX11_term 0 := ⟨⟨big_at 1423 (by decide +kernel) rfl, big_at 107 (by decide +kernel) rfl, ⟨by decide +kernel, by decide +kernel⟩, by decide +kernel⟩, big_at 1422 (by decide +kernel) rfl, big_at 59 (by decide +kernel) rfl⟩
abbrev mX11_factor : Md := (yX11_factor, cX11_factor, 2, none, [])
theorem mw_X11_factor : MwV mX11_factor 0 := ⟨⟨big_at 1427 (by decide +kernel) rfl, big_at 107 (by decide +kernel) rfl, ⟨by decide +kernel, by decide +kernel⟩, by decide +kernel⟩, big_at 1426 (by decide +kernel) rfl, big_at 60 (by decide +kernel) rfl⟩
abbrev mX11_codes : Md := (yX11_codes, cX11_codes, 4, none, [])
theorem mw_X11_codes : MwV mX11_codes 2 := ⟨⟨big_at 1431 (by decide +kernel) rfl, big_at 107 (by decide +kernel) rfl, ⟨by decide +kernel, by decide +kernel⟩, by decide +kernel⟩, big_at 1430 (by decide +kernel) rfl, big_at 61 (by decide +kernel) rfl⟩
abbrev mX11_change : Md := (yX11_change, cX11_change, 3, none, [])
theorem mw_X11_change : MwV mX11_change 0 := ⟨⟨big_at 1438 (by decide +kernel) rfl, big_at 107 (by decide +kernel) rfl, ⟨by decide +kernel, by decide +kernel⟩, by decide +kernel⟩, big_at 1437 (by decide +kernel) rfl, big_at 62 (by decide +kernel) rfl⟩
abbrev mX11_get : Md := (yX11_get, cX11_get, 2, (some .int), [])
theorem mw_X11_get : MwV mX11_get 1 := ⟨⟨big_at 1442 (by decide +kernel) rfl, big_at 107 (by decide +kernel) rfl, ⟨by decide +kernel, by decide +kernel⟩, by decide +kernel⟩, big_at 1441 (by decide +kernel) rfl, big_at 63 (by decide +kernel) rfl⟩
abbrev mX11_put : Md := (yX11_put, cX11_put, 3, none, [])
theorem mw_X11_put : MwV mX11_put 2 := ⟨⟨big_at 1446 (by decide +kernel) rfl, big_at 107 (by decide +kernel) rfl, ⟨by decide +kernel, by decide +kernel⟩, by decide +kernel⟩, big_at 1445 (by decide +kernel) rfl, big_at 64 (by decide +kernel) rfl⟩
abbrev mX11_numbers : Md := (yX11_numbers, cX11_numbers, 5, none, [])
theorem mw_X11_numbers : MwV mX11_numbers 0 := ⟨⟨big_at 1450 (by decide +kernel) rfl, big_at 107 (by decide +kernel) rfl, ⟨by decide +kernel, by decide +kernel⟩, by decide +kernel⟩, big_at 1449 (by decide +kernel) rfl, big_at 65 (by decide +kernel) rfl⟩
abbrev mX11_count : Md := (yX11_count, cX11_count, 1, (some .int), [])
theorem mw_X11_count : MwV mX11_count 0 := ⟨⟨big_at 1454 (by decide +kernel) rfl, big_at 107 (by decide +kernel) rfl, ⟨by decide +kernel, by decide +kernel⟩, by decide +kernel⟩, big_at 1453 (by decide +kernel) rfl, big_at 66 (by decide +kernel) rfl⟩
abbrev mX11_errorOffset : Md := (yX11_errorOffset, cX11_errorOffset, 1, (some .int), [])
theorem mw_X11_errorOffset : MwV mX11_errorOffset 0 := ⟨⟨big_at 1458 (by decide +kernel) rfl, big_at 107 (by decide +kernel) rfl, ⟨by decide +kernel, by decide +kernel⟩, by decide +kernel⟩, big_at 1456 (by decide +kernel) rfl, big_at 1457 (by decide +kernel) rfl⟩
abbrev mX11_size : Md := (yX11_size, cX11_size, 1, (some .int), [])
theorem mw_X11_size : MwV mX11_size 0 := ⟨⟨big_at 1462 (by decide +kernel) rfl, big_at 107 (by decide +kernel) rfl, ⟨by decide +kernel, by decide +kernel⟩, by decide +kernel⟩, big_at 1460 (by decide +kernel) rfl, big_at 1461 (by decide +kernel) rfl⟩
abbrev mX11_edgeCount : Md := (yX11_edgeCount, cX11_edgeCount, 1, (some .int), [])
theorem mw_X11_edgeCount : MwV mX11_edgeCount 0 := ⟨⟨big_at 1466 (by decide +kernel) rfl, big_at 107 (by decide +kernel) rfl, ⟨by decide +kernel, by decide +kernel⟩, by decide +kernel⟩, big_at 1464 (by decide +kernel) rfl, big_at 1465 (by decide +kernel) rfl⟩
abbrev mX11_edge : Md := (yX11_edge, cX11_edge, 5, (some .int), [])
theorem mw_X11_edge : MwV mX11_edge 2 := ⟨⟨big_at 1470 (by decide +kernel) rfl, big_at 107 (by decide +kernel) rfl, ⟨by decide +kernel, by decide +kernel⟩, by decide +kernel⟩, big_at 1468 (by decide +kernel) rfl, big_at 1469 (by decide +kernel) rfl⟩
abbrev mX11_isEdge : Md := (yX11_isEdge, cX11_isEdge, 2, (some .boolean), [])
theorem mw_X11_isEdge : MwV mX11_isEdge 1 := ⟨⟨big_at 1474 (by decide +kernel) rfl, big_at 107 (by decide +kernel) rfl, ⟨by decide +kernel, by decide +kernel⟩, by decide +kernel⟩, big_at 1473 (by decide +kernel) rfl, big_at 67 (by decide +kernel) rfl⟩
abbrev mX11_lays : Md := (yX11_lays, cX11_lays, 5, none, [])
theorem mw_X11_lays : MwV mX11_lays 0 := ⟨⟨big_at 1479 (by decide +kernel) rfl, big_at 107 (by decide +kernel) rfl, ⟨by decide +kernel, by decide +kernel⟩, by decide +kernel⟩, big_at 1478 (by decide +kernel) rfl, big_at 68 (by decide +kernel) rfl⟩
abbrev mX11_costOf : Md := (yX11_costOf, cX11_costOf, 12, (some .int), [])
theorem mw_X11_costOf : MwV mX11_costOf 3 := ⟨⟨big_at 1483 (by decide +kernel) rfl, big_at 107 (by decide +kernel) rfl, ⟨by decide +kernel, by decide +kernel⟩, by decide +kernel⟩, big_at 1482 (by decide +kernel) rfl, big_at 69 (by decide +kernel) rfl⟩
abbrev mX11_within : Md := (yX11_within, cX11_within, 4, (some .long), [])
theorem mw_X11_within : MwS mX11_within 2 := ⟨⟨big_at 1487 (by decide +kernel) rfl, big_at 107 (by decide +kernel) rfl, ⟨by decide +kernel, by decide +kernel⟩, by decide +kernel⟩, big_at 1486 (by decide +kernel) rfl⟩
abbrev mX11_degree : Md := (yX11_degree, cX11_degree, 2, (some .int), [])
theorem mw_X11_degree : MwV mX11_degree 1 := ⟨⟨big_at 1492 (by decide +kernel) rfl, big_at 107 (by decide +kernel) rfl, ⟨by decide +kernel, by decide +kernel⟩, by decide +kernel⟩, big_at 1490 (by decide +kernel) rfl, big_at 1491 (by decide +kernel) rfl⟩
abbrev mX11_starts : Md := (yX11_starts, cX11_starts, 2, (some .boolean), [])
theorem mw_X11_starts : MwV mX11_starts 1 := ⟨⟨big_at 1496 (by decide +kernel) rfl, big_at 107 (by decide +kernel) rfl, ⟨by decide +kernel, by decide +kernel⟩, by decide +kernel⟩, big_at 1495 (by decide +kernel) rfl, big_at 70 (by decide +kernel) rfl⟩
abbrev mX11_isVertex : Md := (yX11_isVertex, cX11_isVertex, 2, (some .boolean), [])
theorem mw_X11_isVertex : MwV mX11_isVertex 1 := ⟨⟨big_at 1500 (by decide +kernel) rfl, big_at 107 (by decide +kernel) rfl, ⟨by decide +kernel, by decide +kernel⟩, by decide +kernel⟩, big_at 1499 (by decide +kernel) rfl, big_at 71 (by decide +kernel) rfl⟩
abbrev mX11_reachable : Md := (yX11_reachable, cX11_reachable, 2, (some .int), [])
theorem mw_X11_reachable : MwV mX11_reachable 1 := ⟨⟨big_at 1504 (by decide +kernel) rfl, big_at 107 (by decide +kernel) rfl, ⟨by decide +kernel, by decide +kernel⟩, by decide +kernel⟩, big_at 1502 (by decide +kernel) rfl, big_at 1503 (by decide +kernel) rfl⟩
abbrev mX11_reachedFrom : Md := (yX11_reachedFrom, cX11_reachedFrom, 6, (some .int), [])
theorem mw_X11_reachedFrom : MwV mX11_reachedFrom 1 := ⟨⟨big_at 1508 (by decide +kernel) rfl, big_at 107 (by decide +kernel) rfl, ⟨by decide +kernel, by decide +kernel⟩, by decide +kernel⟩, big_at 1507 (by decide +kernel) rfl, big_at 72 (by decide +kernel) rfl⟩
abbrev mX11_has : Md := (yX11_has, cX11_has, 2, (some .boolean), [])
theorem mw_X11_has : MwS mX11_has 2 := ⟨⟨big_at 1511 (by decide +kernel) rfl, big_at 107 (by decide +kernel) rfl, ⟨by decide +kernel, by decide +kernel⟩, by decide +kernel⟩, big_at 1510 (by decide +kernel) rfl⟩
abbrev mX11_transition : Md := (yX11_transition, cX11_transition, 4, (some .int), [])
theorem mw_X11_transition : MwV mX11_transition 3 := ⟨⟨big_at 1515 (by decide +kernel) rfl, big_at 107 (by decide +kernel) rfl, ⟨by decide +kernel, by decide +kernel⟩, by decide +kernel⟩, big_at 1513 (by decide +kernel) rfl, big_at 1514 (by decide +kernel) rfl⟩
abbrev mX11_starts2 : Md := (yX11_starts2, cX11_starts2, 3, (some .boolean), [])
theorem mw_X11_starts2 : MwV mX11_starts2 2 := ⟨⟨big_at 1519 (by decide +kernel) rfl, big_at 107 (by decide +kernel) rfl, ⟨by decide +kernel, by decide +kernel⟩, by decide +kernel⟩, big_at 1518 (by decide +kernel) rfl, big_at 73 (by decide +kernel) rfl⟩
abbrev mX11_step : Md := (yX11_step, cX11_step, 3, none, [])
theorem mw_X11_step : MwV mX11_step 2 := ⟨⟨big_at 1523 (by decide +kernel) rfl, big_at 107 (by decide +kernel) rfl, ⟨by decide +kernel, by decide +kernel⟩, by decide +kernel⟩, big_at 1522 (by decide +kernel) rfl, big_at 74 (by decide +kernel) rfl⟩
abbrev mX11_fraction : Md := (yX11_fraction, cX11_fraction, 7, none, [])
theorem mw_X11_fraction : MwV mX11_fraction 2 := ⟨⟨big_at 1527 (by decide +kernel) rfl, big_at 107 (by decide +kernel) rfl, ⟨by decide +kernel, by decide +kernel⟩, by decide +kernel⟩, big_at 1526 (by decide +kernel) rfl, big_at 75 (by decide +kernel) rfl⟩
abbrev mX11_divisor : Md := (yX11_divisor, cX11_divisor, 10, (some .long), [])
theorem mw_X11_divisor : MwS mX11_divisor 2 := ⟨⟨big_at 1530 (by decide +kernel) rfl, big_at 107 (by decide +kernel) rfl, ⟨by decide +kernel, by decide +kernel⟩, by decide +kernel⟩, big_at 1529 (by decide +kernel) rfl⟩
abbrev mX11_told : Md := (yX11_told, cX11_told, 2, (some .long), [])
theorem mw_X11_told : MwV mX11_told 1 := ⟨⟨big_at 1534 (by decide +kernel) rfl, big_at 107 (by decide +kernel) rfl, ⟨by decide +kernel, by decide +kernel⟩, by decide +kernel⟩, big_at 1533 (by decide +kernel) rfl, big_at 76 (by decide +kernel) rfl⟩
abbrev mX11_hittingTime : Md := (yX11_hittingTime, cX11_hittingTime, 4, (some .long), [])
theorem mw_X11_hittingTime : MwV mX11_hittingTime 3 := ⟨⟨big_at 1538 (by decide +kernel) rfl, big_at 107 (by decide +kernel) rfl, ⟨by decide +kernel, by decide +kernel⟩, by decide +kernel⟩, big_at 1536 (by decide +kernel) rfl, big_at 1537 (by decide +kernel) rfl⟩
abbrev mX11_canGo : Md := (yX11_canGo, cX11_canGo, 3, (some .boolean), [])
theorem mw_X11_canGo : MwV mX11_canGo 2 := ⟨⟨big_at 1542 (by decide +kernel) rfl, big_at 107 (by decide +kernel) rfl, ⟨by decide +kernel, by decide +kernel⟩, by decide +kernel⟩, big_at 1541 (by decide +kernel) rfl, big_at 77 (by decide +kernel) rfl⟩
abbrev mX11_meanTo : Md := (yX11_meanTo, cX11_meanTo, 8, none, [])
theorem mw_X11_meanTo : MwV mX11_meanTo 3 := ⟨⟨big_at 1546 (by decide +kernel) rfl, big_at 107 (by decide +kernel) rfl, ⟨by decide +kernel, by decide +kernel⟩, by decide +kernel⟩, big_at 1545 (by decide +kernel) rfl, big_at 78 (by decide +kernel) rfl⟩
abbrev mX11_begins : Md := (yX11_begins, cX11_begins, 5, none, [])
theorem mw_X11_begins : MwV mX11_begins 2 := ⟨⟨big_at 1550 (by decide +kernel) rfl, big_at 107 (by decide +kernel) rfl, ⟨by decide +kernel, by decide +kernel⟩, by decide +kernel⟩, big_at 1549 (by decide +kernel) rfl, big_at 79 (by decide +kernel) rfl⟩
abbrev mX11_further : Md := (yX11_further, cX11_further, 4, none, [])
theorem mw_X11_further : MwV mX11_further 2 := ⟨⟨big_at 1554 (by decide +kernel) rfl, big_at 107 (by decide +kernel) rfl, ⟨by decide +kernel, by decide +kernel⟩, by decide +kernel⟩, big_at 1553 (by decide +kernel) rfl, big_at 80 (by decide +kernel) rfl⟩
abbrev mX11_solves : Md := (yX11_solves, cX11_solves, 2, none, [])
theorem mw_X11_solves : MwV mX11_solves 1 := ⟨⟨big_at 1558 (by decide +kernel) rfl, big_at 107 (by decide +kernel) rfl, ⟨by decide +kernel, by decide +kernel⟩, by decide +kernel⟩, big_at 1557 (by decide +kernel) rfl, big_at 81 (by decide +kernel) rfl⟩
abbrev mX11_determinantWith : Md := (yX11_determinantWith, cX11_determinantWith, 4, (some .long), [])
theorem mw_X11_determinantWith : MwV mX11_determinantWith 1 := ⟨⟨big_at 1562 (by decide +kernel) rfl, big_at 107 (by decide +kernel) rfl, ⟨by decide +kernel, by decide +kernel⟩, by decide +kernel⟩, big_at 1561 (by decide +kernel) rfl, big_at 82 (by decide +kernel) rfl⟩
abbrev mX11_determinant : Md := (yX11_determinant, cX11_determinant, 11, (some .long), [])
theorem mw_X11_determinant : MwV mX11_determinant 1 := ⟨⟨big_at 1566 (by decide +kernel) rfl, big_at 107 (by decide +kernel) rfl, ⟨by decide +kernel, by decide +kernel⟩, by decide +kernel⟩, big_at 1565 (by decide +kernel) rfl, big_at 83 (by decide +kernel) rfl⟩
abbrev mX11_hittingCost : Md := (yX11_hittingCost, cX11_hittingCost, 4, (some .long), [])
theorem mw_X11_hittingCost : MwV mX11_hittingCost 3 := ⟨⟨big_at 1570 (by decide +kernel) rfl, big_at 107 (by decide +kernel) rfl, ⟨by decide +kernel, by decide +kernel⟩, by decide +kernel⟩, big_at 1568 (by decide +kernel) rfl, big_at 1569 (by decide +kernel) rfl⟩
abbrev mX11_commuteTime : Md := (yX11_commuteTime, cX11_commuteTime, 4, (some .long), [])
theorem mw_X11_commuteTime : MwV mX11_commuteTime 3 := ⟨⟨big_at 1574 (by decide +kernel) rfl, big_at 107 (by decide +kernel) rfl, ⟨by decide +kernel, by decide +kernel⟩, by decide +kernel⟩, big_at 1572 (by decide +kernel) rfl, big_at 1573 (by decide +kernel) rfl⟩
abbrev mX11_commutes : Md := (yX11_commutes, cX11_commutes, 9, none, [])
theorem mw_X11_commutes : MwV mX11_commutes 2 := ⟨⟨big_at 1578 (by decide +kernel) rfl, big_at 107 (by decide +kernel) rfl, ⟨by decide +kernel, by decide +kernel⟩, by decide +kernel⟩, big_at 1577 (by decide +kernel) rfl, big_at 84 (by decide +kernel) rfl⟩
abbrev mX11_resistance : Md := (yX11_resistance, cX11_resistance, 8, (some .long), [])
theorem mw_X11_resistance : MwV mX11_resistance 3 := ⟨⟨big_at 1582 (by decide +kernel) rfl, big_at 107 (by decide +kernel) rfl, ⟨by decide +kernel, by decide +kernel⟩, by decide +kernel⟩, big_at 1580 (by decide +kernel) rfl, big_at 1581 (by decide +kernel) rfl⟩
abbrev mX11_trees : Md := (yX11_trees, cX11_trees, 1, (some .long), [])
theorem mw_X11_trees : MwV mX11_trees 0 := ⟨⟨big_at 1586 (by decide +kernel) rfl, big_at 107 (by decide +kernel) rfl, ⟨by decide +kernel, by decide +kernel⟩, by decide +kernel⟩, big_at 1584 (by decide +kernel) rfl, big_at 1585 (by decide +kernel) rfl⟩
abbrev mX11_treesNow : Md := (yX11_treesNow, cX11_treesNow, 1, (some .long), [])
theorem mw_X11_treesNow : MwV mX11_treesNow 0 := ⟨⟨big_at 1590 (by decide +kernel) rfl, big_at 107 (by decide +kernel) rfl, ⟨by decide +kernel, by decide +kernel⟩, by decide +kernel⟩, big_at 1589 (by decide +kernel) rfl, big_at 85 (by decide +kernel) rfl⟩
abbrev mX11_absorbing : Md := (yX11_absorbing, cX11_absorbing, 1, (some .int), [])
theorem mw_X11_absorbing : MwV mX11_absorbing 0 := ⟨⟨big_at 1594 (by decide +kernel) rfl, big_at 107 (by decide +kernel) rfl, ⟨by decide +kernel, by decide +kernel⟩, by decide +kernel⟩, big_at 1592 (by decide +kernel) rfl, big_at 1593 (by decide +kernel) rfl⟩
abbrev mX11_absorption : Md := (yX11_absorption, cX11_absorption, 5, (some .long), [])
theorem mw_X11_absorption : MwV mX11_absorption 3 := ⟨⟨big_at 1598 (by decide +kernel) rfl, big_at 107 (by decide +kernel) rfl, ⟨by decide +kernel, by decide +kernel⟩, by decide +kernel⟩, big_at 1596 (by decide +kernel) rfl, big_at 1597 (by decide +kernel) rfl⟩
abbrev mX11_absorptionTime : Md := (yX11_absorptionTime, cX11_absorptionTime, 3, (some .long), [])
theorem mw_X11_absorptionTime : MwV mX11_absorptionTime 2 := ⟨⟨big_at 1602 (by decide +kernel) rfl, big_at 107 (by decide +kernel) rfl, ⟨by decide +kernel, by decide +kernel⟩, by decide +kernel⟩, big_at 1600 (by decide +kernel) rfl, big_at 1601 (by decide +kernel) rfl⟩
abbrev mX11_blockOf : Md := (yX11_blockOf, cX11_blockOf, 2, (some .int), [])
theorem mw_X11_blockOf : MwV mX11_blockOf 1 := ⟨⟨big_at 1606 (by decide +kernel) rfl, big_at 107 (by decide +kernel) rfl, ⟨by decide +kernel, by decide +kernel⟩, by decide +kernel⟩, big_at 1604 (by decide +kernel) rfl, big_at 1605 (by decide +kernel) rfl⟩
abbrev mX11_blockCount : Md := (yX11_blockCount, cX11_blockCount, 1, (some .int), [])
theorem mw_X11_blockCount : MwV mX11_blockCount 0 := ⟨⟨big_at 1610 (by decide +kernel) rfl, big_at 107 (by decide +kernel) rfl, ⟨by decide +kernel, by decide +kernel⟩, by decide +kernel⟩, big_at 1608 (by decide +kernel) rfl, big_at 1609 (by decide +kernel) rfl⟩
abbrev mX11_blocksNow : Md := (yX11_blocksNow, cX11_blocksNow, 3, (some .int), [])
theorem mw_X11_blocksNow : MwV mX11_blocksNow 0 := ⟨⟨big_at 1614 (by decide +kernel) rfl, big_at 107 (by decide +kernel) rfl, ⟨by decide +kernel, by decide +kernel⟩, by decide +kernel⟩, big_at 1613 (by decide +kernel) rfl, big_at 86 (by decide +kernel) rfl⟩
abbrev mX11_isLumpable : Md := (yX11_isLumpable, cX11_isLumpable, 1, (some .boolean), [])
theorem mw_X11_isLumpable : MwV mX11_isLumpable 0 := ⟨⟨big_at 1618 (by decide +kernel) rfl, big_at 107 (by decide +kernel) rfl, ⟨by decide +kernel, by decide +kernel⟩, by decide +kernel⟩, big_at 1616 (by decide +kernel) rfl, big_at 1617 (by decide +kernel) rfl⟩
abbrev mX11_firstParted : Md := (yX11_firstParted, cX11_firstParted, 4, (some .int), [])
theorem mw_X11_firstParted : MwV mX11_firstParted 0 := ⟨⟨big_at 1622 (by decide +kernel) rfl, big_at 107 (by decide +kernel) rfl, ⟨by decide +kernel, by decide +kernel⟩, by decide +kernel⟩, big_at 1621 (by decide +kernel) rfl, big_at 87 (by decide +kernel) rfl⟩
abbrev mX11_areUnlike : Md := (yX11_areUnlike, cX11_areUnlike, 4, (some .boolean), [])
theorem mw_X11_areUnlike : MwV mX11_areUnlike 3 := ⟨⟨big_at 1626 (by decide +kernel) rfl, big_at 107 (by decide +kernel) rfl, ⟨by decide +kernel, by decide +kernel⟩, by decide +kernel⟩, big_at 1625 (by decide +kernel) rfl, big_at 88 (by decide +kernel) rfl⟩
abbrev mX11_toBlock : Md := (yX11_toBlock, cX11_toBlock, 5, (some .int), [])
theorem mw_X11_toBlock : MwV mX11_toBlock 2 := ⟨⟨big_at 1630 (by decide +kernel) rfl, big_at 107 (by decide +kernel) rfl, ⟨by decide +kernel, by decide +kernel⟩, by decide +kernel⟩, big_at 1629 (by decide +kernel) rfl, big_at 89 (by decide +kernel) rfl⟩
abbrev mX11_by : Md := (yX11_by, cX11_by, 2, (some .int), [])
theorem mw_X11_by : MwV mX11_by 1 := ⟨⟨big_at 1634 (by decide +kernel) rfl, big_at 107 (by decide +kernel) rfl, ⟨by decide +kernel, by decide +kernel⟩, by decide +kernel⟩, big_at 1633 (by decide +kernel) rfl, big_at 90 (by decide +kernel) rfl⟩
abbrev mX11_parted : Md := (yX11_parted, cX11_parted, 1, (some .int), [])
theorem mw_X11_parted : MwV mX11_parted 0 := ⟨⟨big_at 1638 (by decide +kernel) rfl, big_at 107 (by decide +kernel) rfl, ⟨by decide +kernel, by decide +kernel⟩, by decide +kernel⟩, big_at 1636 (by decide +kernel) rfl, big_at 1637 (by decide +kernel) rfl⟩
abbrev mX11_lumped : Md := (yX11_lumped, cX11_lumped, 5, (some .int), [])
theorem mw_X11_lumped : MwV mX11_lumped 3 := ⟨⟨big_at 1642 (by decide +kernel) rfl, big_at 107 (by decide +kernel) rfl, ⟨by decide +kernel, by decide +kernel⟩, by decide +kernel⟩, big_at 1640 (by decide +kernel) rfl, big_at 1641 (by decide +kernel) rfl⟩
abbrev mX11_areBlocks : Md := (yX11_areBlocks, cX11_areBlocks, 3, (some .boolean), [])
theorem mw_X11_areBlocks : MwV mX11_areBlocks 2 := ⟨⟨big_at 1646 (by decide +kernel) rfl, big_at 107 (by decide +kernel) rfl, ⟨by decide +kernel, by decide +kernel⟩, by decide +kernel⟩, big_at 1645 (by decide +kernel) rfl, big_at 91 (by decide +kernel) rfl⟩
abbrev mX11_firstOf : Md := (yX11_firstOf, cX11_firstOf, 3, (some .int), [])
theorem mw_X11_firstOf : MwV mX11_firstOf 1 := ⟨⟨big_at 1650 (by decide +kernel) rfl, big_at 107 (by decide +kernel) rfl, ⟨by decide +kernel, by decide +kernel⟩, by decide +kernel⟩, big_at 1649 (by decide +kernel) rfl, big_at 92 (by decide +kernel) rfl⟩
abbrev mX11_lumpedTime : Md := (yX11_lumpedTime, cX11_lumpedTime, 5, (some .long), [])
theorem mw_X11_lumpedTime : MwV mX11_lumpedTime 3 := ⟨⟨big_at 1654 (by decide +kernel) rfl, big_at 107 (by decide +kernel) rfl, ⟨by decide +kernel, by decide +kernel⟩, by decide +kernel⟩, big_at 1652 (by decide +kernel) rfl, big_at 1653 (by decide +kernel) rfl⟩
abbrev mX11_setOf : Md := (yX11_setOf, cX11_setOf, 4, (some .int), [])
theorem mw_X11_setOf : MwV mX11_setOf 1 := ⟨⟨big_at 1658 (by decide +kernel) rfl, big_at 107 (by decide +kernel) rfl, ⟨by decide +kernel, by decide +kernel⟩, by decide +kernel⟩, big_at 1657 (by decide +kernel) rfl, big_at 93 (by decide +kernel) rfl⟩
abbrev mX11_after : Md := (yX11_after, cX11_after, 7, (some .float), [])
theorem mw_X11_after : MwV mX11_after 3 := ⟨⟨big_at 1662 (by decide +kernel) rfl, big_at 107 (by decide +kernel) rfl, ⟨by decide +kernel, by decide +kernel⟩, by decide +kernel⟩, big_at 1660 (by decide +kernel) rfl, big_at 1661 (by decide +kernel) rfl⟩
abbrev mX11_walk : Md := (yX11_walk, cX11_walk, 15, (some .int), [])
theorem mw_X11_walk : MwV mX11_walk 4 := ⟨⟨big_at 1667 (by decide +kernel) rfl, big_at 107 (by decide +kernel) rfl, ⟨by decide +kernel, by decide +kernel⟩, by decide +kernel⟩, big_at 1665 (by decide +kernel) rfl, big_at 1666 (by decide +kernel) rfl⟩
abbrev mX11_setWeight : Md := (yX11_setWeight, cX11_setWeight, 4, (some .int), [])
theorem mw_X11_setWeight : MwV mX11_setWeight 2 := ⟨⟨big_at 1677 (by decide +kernel) rfl, big_at 107 (by decide +kernel) rfl, ⟨by decide +kernel, by decide +kernel⟩, by decide +kernel⟩, big_at 1675 (by decide +kernel) rfl, big_at 1676 (by decide +kernel) rfl⟩
abbrev mX11_addEdge : Md := (yX11_addEdge, cX11_addEdge, 5, (some .int), [])
theorem mw_X11_addEdge : MwV mX11_addEdge 3 := ⟨⟨big_at 1682 (by decide +kernel) rfl, big_at 107 (by decide +kernel) rfl, ⟨by decide +kernel, by decide +kernel⟩, by decide +kernel⟩, big_at 1680 (by decide +kernel) rfl, big_at 1681 (by decide +kernel) rfl⟩
abbrev mX11_removeEdge : Md := (yX11_removeEdge, cX11_removeEdge, 4, (some .int), [])
theorem mw_X11_removeEdge : MwV mX11_removeEdge 1 := ⟨⟨big_at 1686 (by decide +kernel) rfl, big_at 107 (by decide +kernel) rfl, ⟨by decide +kernel, by decide +kernel⟩, by decide +kernel⟩, big_at 1684 (by decide +kernel) rfl, big_at 1685 (by decide +kernel) rfl⟩
abbrev mX11_setAbsorbing : Md := (yX11_setAbsorbing, cX11_setAbsorbing, 3, (some .int), [])
theorem mw_X11_setAbsorbing : MwV mX11_setAbsorbing 2 := ⟨⟨big_at 1690 (by decide +kernel) rfl, big_at 107 (by decide +kernel) rfl, ⟨by decide +kernel, by decide +kernel⟩, by decide +kernel⟩, big_at 1688 (by decide +kernel) rfl, big_at 1689 (by decide +kernel) rfl⟩
abbrev mX11_join : Md := (yX11_join, cX11_join, 6, (some .int), [])
theorem mw_X11_join : MwV mX11_join 2 := ⟨⟨big_at 1694 (by decide +kernel) rfl, big_at 107 (by decide +kernel) rfl, ⟨by decide +kernel, by decide +kernel⟩, by decide +kernel⟩, big_at 1692 (by decide +kernel) rfl, big_at 1693 (by decide +kernel) rfl⟩
abbrev mX11_separate : Md := (yX11_separate, cX11_separate, 2, (some .int), [])
theorem mw_X11_separate : MwV mX11_separate 1 := ⟨⟨big_at 1698 (by decide +kernel) rfl, big_at 107 (by decide +kernel) rfl, ⟨by decide +kernel, by decide +kernel⟩, by decide +kernel⟩, big_at 1696 (by decide +kernel) rfl, big_at 1697 (by decide +kernel) rfl⟩
abbrev mX11_refine : Md := (yX11_refine, cX11_refine, 1, (some .int), [])
theorem mw_X11_refine : MwV mX11_refine 0 := ⟨⟨big_at 1702 (by decide +kernel) rfl, big_at 107 (by decide +kernel) rfl, ⟨by decide +kernel, by decide +kernel⟩, by decide +kernel⟩, big_at 1700 (by decide +kernel) rfl, big_at 1701 (by decide +kernel) rfl⟩
abbrev mX11_divides : Md := (yX11_divides, cX11_divides, 7, none, [])
theorem mw_X11_divides : MwV mX11_divides 0 := ⟨⟨big_at 1706 (by decide +kernel) rfl, big_at 107 (by decide +kernel) rfl, ⟨by decide +kernel, by decide +kernel⟩, by decide +kernel⟩, big_at 1705 (by decide +kernel) rfl, big_at 94 (by decide +kernel) rfl⟩
abbrev mX11_undo : Md := (yX11_undo, cX11_undo, 1, (some .int), [])
theorem mw_X11_undo : MwV mX11_undo 0 := ⟨⟨big_at 1710 (by decide +kernel) rfl, big_at 107 (by decide +kernel) rfl, ⟨by decide +kernel, by decide +kernel⟩, by decide +kernel⟩, big_at 1708 (by decide +kernel) rfl, big_at 1709 (by decide +kernel) rfl⟩
abbrev mX11_checksum : Md := (yX11_checksum, cX11_checksum, 5, (some .long), [])
theorem mw_X11_checksum : MwV mX11_checksum 0 := ⟨⟨big_at 1714 (by decide +kernel) rfl, big_at 107 (by decide +kernel) rfl, ⟨by decide +kernel, by decide +kernel⟩, by decide +kernel⟩, big_at 1712 (by decide +kernel) rfl, big_at 1713 (by decide +kernel) rfl⟩
end
section
/-! ===== the methods decoded (written by wip/whole/gen_words.py) ===== -/
def Tb (cc : ByteArray) (l : List (Nat × Instr × Nat)) : Prop := ∀ (i : Nat) (q : Nat × Instr × Nat), l[i]? = some q → decode cc q.1 = .ok q.2
theorem Tb.of {cc : ByteArray} {l : List (Nat × Instr × Nat)} (h : ∀ q ∈ l, decode cc q.1 = .ok q.2) : Tb cc l := fun _ q hq => h q (List.mem_of_getElem? hq)
theorem Tb.at {cc : ByteArray} {l : List (Nat × Instr × Nat)} (h : Tb cc l) (i : Nat) {pc len : Nat} {ins : Instr} (e : l[i]? = some (pc, ins, len)) : decode cc pc = .ok (ins, len) := by
  have h1 := h i (pc, ins, len) e
  exact h1

def lX0_init : List (Nat × Instr × Nat) := [(0, .aload_n 0, 1), (1, .invokespecial 3, 3), (4, .aload_n 0, 1), (5, .bipush 16, 2), (7, .newarray .int, 2), (9, .putfield 9, 3), (12, .aload_n 0, 1), (13, .bipush 36, 2), (15, .newarray .int, 2), (17, .putfield 15, 3), (20, .return_, 1)]
theorem tX0_init : Tb mX0_init.2.1 lX0_init := Tb.of (by decide +kernel)
def lX0_costOfStep : List (Nat × Instr × Nat) := [(0, .aload_n 0, 1), (1, .aload_n 1, 1), (2, .getfield 18, 3), (5, .aload_n 1, 1), (6, .iload_n 2, 1), (7, .iload_n 3, 1), (8, .invokevirtual 23, 3), (11, .iload_n 2, 1), (12, .iload_n 3, 1), (13, .invokevirtual 27, 3), (16, .istore 4, 2), (18, .iconst 0, 1), (19, .bipush 99, 2), (21, .iload 4, 2), (23, .invokestatic 31, 3), (26, .invokestatic 36, 3), (29, .ireturn, 1)]
theorem tX0_costOfStep : Tb mX0_costOfStep.2.1 lX0_costOfStep := Tb.of (by decide +kernel)
def lX0_fillTable : List (Nat × Instr × Nat) := [(0, .aload_n 0, 1), (1, .getfield 15, 3), (4, .iconst 0, 1), (5, .invokestatic 39, 3), (8, .iconst 0, 1), (9, .istore_n 2, 1), (10, .iload_n 2, 1), (11, .aload_n 1, 1), (12, .getfield 45, 3), (15, .if_icmp .ge 64, 3), (18, .aload_n 1, 1), (19, .getfield 49, 3), (22, .iload_n 2, 1), (23, .iaload, 1), (24, .istore_n 3, 1), (25, .aload_n 1, 1), (26, .getfield 52, 3), (29, .iload_n 2, 1), (30, .iaload, 1), (31, .istore 4, 2), (33, .aload_n 0, 1), (34, .getfield 15, 3), (37, .iload_n 3, 1), (38, .bipush 6, 2), (40, .imul, 1), (41, .iload 4, 2), (43, .iadd, 1), (44, .aload_n 0, 1), (45, .aload_n 1, 1), (46, .iload_n 3, 1), (47, .iload 4, 2), (49, .invokevirtual 55, 3), (52, .iastore, 1), (53, .aload_n 0, 1), (54, .getfield 15, 3), (57, .iload 4, 2), (59, .bipush 6, 2), (61, .imul, 1), (62, .iload_n 3, 1), (63, .iadd, 1), (64, .aload_n 0, 1), (65, .aload_n 1, 1), (66, .iload 4, 2), (68, .iload_n 3, 1), (69, .invokevirtual 55, 3), (72, .iastore, 1), (73, .iinc 2 1, 3), (76, .goto (-66), 3), (79, .return_, 1)]
theorem tX0_fillTable : Tb mX0_fillTable.2.1 lX0_fillTable := Tb.of (by decide +kernel)
def lX0_tabled : List (Nat × Instr × Nat) := [(0, .aload_n 0, 1), (1, .getfield 15, 3), (4, .iload_n 1, 1), (5, .bipush 6, 2), (7, .imul, 1), (8, .iload_n 2, 1), (9, .iadd, 1), (10, .iaload, 1), (11, .ireturn, 1)]
theorem tX0_tabled : Tb mX0_tabled.2.1 lX0_tabled := Tb.of (by decide +kernel)
def lX0_evaluate : List (Nat × Instr × Nat) := [(0, .iconst 0, 1), (1, .istore 5, 2), (3, .iconst 0, 1), (4, .istore 6, 2), (6, .iload 6, 2), (8, .aload_n 1, 1), (9, .arraylength, 1), (10, .if_icmp .ge 95, 3), (13, .aload_n 1, 1), (14, .iload 6, 2), (16, .iaload, 1), (17, .istore 7, 2), (19, .iload 7, 2), (21, .bipush (-4), 2), (23, .if_icmp .le 35, 3), (26, .iload 5, 2), (28, .aload_n 0, 1), (29, .getfield 9, 3), (32, .arraylength, 1), (33, .if_icmp .ge 66, 3), (36, .aload_n 0, 1), (37, .getfield 9, 3), (40, .iload 5, 2), (42, .iload 7, 2), (44, .iload_n 2, 1), (45, .iload_n 3, 1), (46, .iload 4, 2), (48, .invokestatic 59, 3), (51, .iastore, 1), (52, .iinc 5 1, 3), (55, .goto 44, 3), (58, .iload 5, 2), (60, .iconst 2, 1), (61, .if_icmp .lt 38, 3), (64, .iinc 5 (-1), 3), (67, .aload_n 0, 1), (68, .getfield 9, 3), (71, .iload 5, 2), (73, .iconst 1, 1), (74, .isub, 1), (75, .iload 7, 2), (77, .aload_n 0, 1), (78, .getfield 9, 3), (81, .iload 5, 2), (83, .iconst 1, 1), (84, .isub, 1), (85, .iaload, 1), (86, .i2l, 1), (87, .aload_n 0, 1), (88, .getfield 9, 3), (91, .iload 5, 2), (93, .iaload, 1), (94, .i2l, 1), (95, .invokestatic 63, 3), (98, .iastore, 1), (99, .iinc 6 1, 3), (102, .goto (-96), 3), (105, .iload 5, 2), (107, .ifCond .le 12, 3), (110, .aload_n 0, 1), (111, .getfield 9, 3), (114, .iconst 0, 1), (115, .iaload, 1), (116, .goto 4, 3), (119, .iconst 0, 1), (120, .ireturn, 1)]
theorem tX0_evaluate : Tb mX0_evaluate.2.1 lX0_evaluate := Tb.of (by decide +kernel)
def lX0_operand : List (Nat × Instr × Nat) := [(0, .iload_n 0, 1), (1, .tableswitch 33 (-3) (-1) #[31, 29, 27], 27), (28, .iload_n 1, 1), (29, .ireturn, 1), (30, .iload_n 2, 1), (31, .ireturn, 1), (32, .iload_n 3, 1), (33, .ireturn, 1), (34, .iload_n 0, 1), (35, .ireturn, 1)]
theorem tX0_operand : Tb mX0_operand.2.1 lX0_operand := Tb.of (by decide +kernel)
def lX0_operate : List (Nat × Instr × Nat) := [(0, .iload_n 0, 1), (1, .bipush (-4), 2), (3, .if_icmp .ne 11, 3), (6, .lload_n 1, 1), (7, .lload_n 3, 1), (8, .ladd, 1), (9, .lstore 5, 2), (11, .goto 46, 3), (14, .iload_n 0, 1), (15, .bipush (-5), 2), (17, .if_icmp .ne 11, 3), (20, .lload_n 1, 1), (21, .lload_n 3, 1), (22, .lsub, 1), (23, .lstore 5, 2), (25, .goto 32, 3), (28, .iload_n 0, 1), (29, .bipush (-6), 2), (31, .if_icmp .ne 11, 3), (34, .lload_n 1, 1), (35, .lload_n 3, 1), (36, .lmul, 1), (37, .lstore 5, 2), (39, .goto 18, 3), (42, .lload_n 3, 1), (43, .lconst 0, 1), (44, .lcmp, 1), (45, .ifCond .ne 7, 3), (48, .lconst 0, 1), (49, .goto 6, 3), (52, .lload_n 1, 1), (53, .lload_n 3, 1), (54, .ldiv, 1), (55, .lstore 5, 2), (57, .ldc2_w 67, 3), (60, .ldc2_w 69, 3), (63, .lload 5, 2), (65, .invokestatic 71, 3), (68, .invokestatic 74, 3), (71, .l2i, 1), (72, .ireturn, 1)]
theorem tX0_operate : Tb mX0_operate.2.1 lX0_operate := Tb.of (by decide +kernel)
def lX1_init : List (Nat × Instr × Nat) := [(0, .aload_n 0, 1), (1, .invokespecial 3, 3), (4, .aload_n 0, 1), (5, .bipush 42, 2), (7, .newarray .long, 2), (9, .putfield 11, 3), (12, .aload_n 0, 1), (13, .bipush 6, 2), (15, .newarray .int, 2), (17, .putfield 15, 3), (20, .aload_n 0, 1), (21, .bipush 6, 2), (23, .newarray .long, 2), (25, .putfield 19, 3), (28, .aload_n 0, 1), (29, .iconst 0, 1), (30, .putfield 22, 3), (33, .return_, 1)]
theorem tX1_init : Tb mX1_init.2.1 lX1_init := Tb.of (by decide +kernel)
def lX1_meanUntil : List (Nat × Instr × Nat) := [(0, .iload_n 2, 1), (1, .iload_n 3, 1), (2, .if_icmp .ne 13, 3), (5, .aload 5, 2), (7, .lconst 0, 1), (8, .lconst 1, 1), (9, .invokevirtual 26, 3), (12, .goto 24, 3), (15, .aload_n 0, 1), (16, .aload_n 1, 1), (17, .aload_n 1, 1), (18, .iload_n 2, 1), (19, .invokevirtual 32, 3), (22, .iconst 1, 1), (23, .iload_n 3, 1), (24, .ishl, 1), (25, .iconst (-1), 1), (26, .ixor, 1), (27, .iand, 1), (28, .iload_n 2, 1), (29, .aload 4, 2), (31, .aload 5, 2), (33, .invokevirtual 38, 3), (36, .return_, 1)]
theorem tX1_meanUntil : Tb mX1_meanUntil.2.1 lX1_meanUntil := Tb.of (by decide +kernel)
def lX1_solve : List (Nat × Instr × Nat) := [(0, .aload_n 0, 1), (1, .aload_n 1, 1), (2, .iload_n 2, 1), (3, .iload_n 3, 1), (4, .aload 4, 2), (6, .invokevirtual 42, 3), (9, .aload_n 0, 1), (10, .invokevirtual 46, 3), (13, .ifCond .eq 41, 3), (16, .aload 5, 2), (18, .aload_n 0, 1), (19, .aload_n 0, 1), (20, .getfield 22, 3), (23, .iconst 1, 1), (24, .isub, 1), (25, .aload_n 0, 1), (26, .getfield 22, 3), (29, .invokevirtual 50, 3), (32, .aload_n 0, 1), (33, .aload_n 0, 1), (34, .getfield 22, 3), (37, .iconst 1, 1), (38, .isub, 1), (39, .aload_n 0, 1), (40, .getfield 22, 3), (43, .iconst 1, 1), (44, .isub, 1), (45, .invokevirtual 50, 3), (48, .invokevirtual 26, 3), (51, .goto 10, 3), (54, .aload 5, 2), (56, .lconst 0, 1), (57, .lconst 1, 1), (58, .invokevirtual 26, 3), (61, .return_, 1)]
theorem tX1_solve : Tb mX1_solve.2.1 lX1_solve := Tb.of (by decide +kernel)
def lX1_treesOf : List (Nat × Instr × Nat) := [(0, .iconst 1, 1), (1, .aload_n 1, 1), (2, .getfield 54, 3), (5, .ishl, 1), (6, .iconst 1, 1), (7, .isub, 1), (8, .istore_n 2, 1), (9, .aload_n 0, 1), (10, .aload_n 1, 1), (11, .iload_n 2, 1), (12, .bipush (-2), 2), (14, .iand, 1), (15, .iconst 1, 1), (16, .aload_n 0, 1), (17, .getfield 19, 3), (20, .invokevirtual 42, 3), (23, .aload_n 0, 1), (24, .invokevirtual 46, 3), (27, .ifCond .eq 22, 3), (30, .aload_n 0, 1), (31, .aload_n 0, 1), (32, .getfield 22, 3), (35, .iconst 1, 1), (36, .isub, 1), (37, .aload_n 0, 1), (38, .getfield 22, 3), (41, .iconst 1, 1), (42, .isub, 1), (43, .invokevirtual 50, 3), (46, .goto 4, 3), (49, .lconst 0, 1), (50, .lreturn, 1)]
theorem tX1_treesOf : Tb mX1_treesOf.2.1 lX1_treesOf := Tb.of (by decide +kernel)
def lX1_build : List (Nat × Instr × Nat) := [(0, .aload_n 0, 1), (1, .iconst 0, 1), (2, .putfield 22, 3), (5, .iconst 0, 1), (6, .istore 5, 2), (8, .iload 5, 2), (10, .aload_n 1, 1), (11, .getfield 54, 3), (14, .if_icmp .ge 45, 3), (17, .iload 5, 2), (19, .iload_n 3, 1), (20, .if_icmp .eq 33, 3), (23, .iload_n 2, 1), (24, .iload 5, 2), (26, .ishr, 1), (27, .iconst 1, 1), (28, .iand, 1), (29, .ifCond .eq 24, 3), (32, .aload_n 0, 1), (33, .getfield 15, 3), (36, .aload_n 0, 1), (37, .getfield 22, 3), (40, .iload 5, 2), (42, .iastore, 1), (43, .aload_n 0, 1), (44, .dup, 1), (45, .getfield 22, 3), (48, .iconst 1, 1), (49, .iadd, 1), (50, .putfield 22, 3), (53, .iinc 5 1, 3), (56, .goto (-48), 3), (59, .aload_n 0, 1), (60, .getfield 22, 3), (63, .bipush 6, 2), (65, .if_icmp .ge 23, 3), (68, .aload_n 0, 1), (69, .getfield 15, 3), (72, .aload_n 0, 1), (73, .getfield 22, 3), (76, .iload_n 3, 1), (77, .iastore, 1), (78, .aload_n 0, 1), (79, .dup, 1), (80, .getfield 22, 3), (83, .iconst 1, 1), (84, .iadd, 1), (85, .putfield 22, 3), (88, .iconst 0, 1), (89, .istore 5, 2), (91, .iload 5, 2), (93, .aload_n 0, 1), (94, .getfield 22, 3), (97, .if_icmp .ge 91, 3), (100, .aload_n 0, 1), (101, .getfield 15, 3), (104, .iload 5, 2), (106, .iaload, 1), (107, .istore 6, 2), (109, .iconst 0, 1), (110, .istore 7, 2), (112, .iload 7, 2), (114, .aload_n 0, 1), (115, .getfield 22, 3), (118, .if_icmp .ge 49, 3), (121, .aload_n 0, 1), (122, .iload 5, 2), (124, .iload 7, 2), (126, .iload 5, 2), (128, .iload 7, 2), (130, .if_icmp .ne 13, 3), (133, .aload_n 1, 1), (134, .iload 6, 2), (136, .invokevirtual 57, 3), (139, .i2l, 1), (140, .goto 18, 3), (143, .aload_n 1, 1), (144, .iload 6, 2), (146, .aload_n 0, 1), (147, .getfield 15, 3), (150, .iload 7, 2), (152, .iaload, 1), (153, .invokevirtual 60, 3), (156, .ineg, 1), (157, .i2l, 1), (158, .invokevirtual 64, 3), (161, .iinc 7 1, 3), (164, .goto (-52), 3), (167, .aload_n 0, 1), (168, .iload 5, 2), (170, .aload_n 0, 1), (171, .getfield 22, 3), (174, .aload 4, 2), (176, .iload 6, 2), (178, .laload, 1), (179, .invokevirtual 64, 3), (182, .iinc 5 1, 3), (185, .goto (-94), 3), (188, .return_, 1)]
theorem tX1_build : Tb mX1_build.2.1 lX1_build := Tb.of (by decide +kernel)
def lX1_eliminate : List (Nat × Instr × Nat) := [(0, .lconst 1, 1), (1, .lstore_n 1, 1), (2, .iconst 0, 1), (3, .istore_n 3, 1), (4, .iload_n 3, 1), (5, .aload_n 0, 1), (6, .getfield 22, 3), (9, .if_icmp .ge 116, 3), (12, .aload_n 0, 1), (13, .iload_n 3, 1), (14, .iload_n 3, 1), (15, .invokevirtual 50, 3), (18, .lstore 4, 2), (20, .lload 4, 2), (22, .lconst 0, 1), (23, .lcmp, 1), (24, .ifCond .eq 9, 3), (27, .lload_n 1, 1), (28, .lconst 0, 1), (29, .lcmp, 1), (30, .ifCond .ne 5, 3), (33, .iconst 0, 1), (34, .ireturn, 1), (35, .iload_n 3, 1), (36, .iconst 1, 1), (37, .iadd, 1), (38, .istore 6, 2), (40, .iload 6, 2), (42, .aload_n 0, 1), (43, .getfield 22, 3), (46, .if_icmp .ge 70, 3), (49, .aload_n 0, 1), (50, .iload 6, 2), (52, .iload_n 3, 1), (53, .invokevirtual 50, 3), (56, .lstore 7, 2), (58, .iload_n 3, 1), (59, .iconst 1, 1), (60, .iadd, 1), (61, .istore 9, 2), (63, .iload 9, 2), (65, .aload_n 0, 1), (66, .getfield 22, 3), (69, .if_icmp .gt 41, 3), (72, .aload_n 0, 1), (73, .iload 6, 2), (75, .iload 9, 2), (77, .aload_n 0, 1), (78, .iload 6, 2), (80, .iload 9, 2), (82, .invokevirtual 50, 3), (85, .lload 4, 2), (87, .lmul, 1), (88, .lload 7, 2), (90, .aload_n 0, 1), (91, .iload_n 3, 1), (92, .iload 9, 2), (94, .invokevirtual 50, 3), (97, .lmul, 1), (98, .lsub, 1), (99, .lload_n 1, 1), (100, .ldiv, 1), (101, .invokevirtual 64, 3), (104, .iinc 9 1, 3), (107, .goto (-44), 3), (110, .iinc 6 1, 3), (113, .goto (-73), 3), (116, .lload 4, 2), (118, .lstore_n 1, 1), (119, .iinc 3 1, 3), (122, .goto (-118), 3), (125, .iconst 1, 1), (126, .ireturn, 1)]
theorem tX1_eliminate : Tb mX1_eliminate.2.1 lX1_eliminate := Tb.of (by decide +kernel)
def lX1_cell : List (Nat × Instr × Nat) := [(0, .aload_n 0, 1), (1, .getfield 11, 3), (4, .iload_n 1, 1), (5, .bipush 7, 2), (7, .imul, 1), (8, .iload_n 2, 1), (9, .iadd, 1), (10, .laload, 1), (11, .lreturn, 1)]
theorem tX1_cell : Tb mX1_cell.2.1 lX1_cell := Tb.of (by decide +kernel)
def lX1_putCell : List (Nat × Instr × Nat) := [(0, .aload_n 0, 1), (1, .getfield 11, 3), (4, .iload_n 1, 1), (5, .bipush 7, 2), (7, .imul, 1), (8, .iload_n 2, 1), (9, .iadd, 1), (10, .lload_n 3, 1), (11, .lastore, 1), (12, .return_, 1)]
theorem tX1_putCell : Tb mX1_putCell.2.1 lX1_putCell := Tb.of (by decide +kernel)
def lX2_init : List (Nat × Instr × Nat) := [(0, .aload_n 0, 1), (1, .invokespecial 1, 3), (4, .aload_n 0, 1), (5, .lconst 0, 1), (6, .putfield 7, 3), (9, .aload_n 0, 1), (10, .lconst 1, 1), (11, .putfield 13, 3), (14, .return_, 1)]
theorem tX2_init : Tb mX2_init.2.1 lX2_init := Tb.of (by decide +kernel)
def lX2_put : List (Nat × Instr × Nat) := [(0, .lload_n 1, 1), (1, .lload_n 3, 1), (2, .invokestatic 16, 3), (5, .lstore 5, 2), (7, .lload_n 3, 1), (8, .lconst 0, 1), (9, .lcmp, 1), (10, .ifCond .le 29, 3), (13, .lload 5, 2), (15, .lconst 0, 1), (16, .lcmp, 1), (17, .ifCond .le 22, 3), (20, .aload_n 0, 1), (21, .lload_n 1, 1), (22, .lload 5, 2), (24, .ldiv, 1), (25, .putfield 7, 3), (28, .aload_n 0, 1), (29, .lload_n 3, 1), (30, .lload 5, 2), (32, .ldiv, 1), (33, .putfield 13, 3), (36, .goto 13, 3), (39, .aload_n 0, 1), (40, .lconst 0, 1), (41, .putfield 7, 3), (44, .aload_n 0, 1), (45, .lconst 1, 1), (46, .putfield 13, 3), (49, .return_, 1)]
theorem tX2_put : Tb mX2_put.2.1 lX2_put := Tb.of (by decide +kernel)
def lX2_add : List (Nat × Instr × Nat) := [(0, .aload_n 0, 1), (1, .aload_n 0, 1), (2, .getfield 7, 3), (5, .aload_n 1, 1), (6, .getfield 13, 3), (9, .lmul, 1), (10, .aload_n 1, 1), (11, .getfield 7, 3), (14, .aload_n 0, 1), (15, .getfield 13, 3), (18, .lmul, 1), (19, .ladd, 1), (20, .aload_n 0, 1), (21, .getfield 13, 3), (24, .aload_n 1, 1), (25, .getfield 13, 3), (28, .lmul, 1), (29, .invokevirtual 20, 3), (32, .return_, 1)]
theorem tX2_add : Tb mX2_add.2.1 lX2_add := Tb.of (by decide +kernel)
def lX2_divideBy : List (Nat × Instr × Nat) := [(0, .aload_n 0, 1), (1, .aload_n 0, 1), (2, .getfield 7, 3), (5, .aload_n 0, 1), (6, .getfield 13, 3), (9, .lload_n 1, 1), (10, .lmul, 1), (11, .invokevirtual 20, 3), (14, .return_, 1)]
theorem tX2_divideBy : Tb mX2_divideBy.2.1 lX2_divideBy := Tb.of (by decide +kernel)
def lX2_part : List (Nat × Instr × Nat) := [(0, .iload_n 1, 1), (1, .ifCond .eq 10, 3), (4, .aload_n 0, 1), (5, .getfield 13, 3), (8, .goto 7, 3), (11, .aload_n 0, 1), (12, .getfield 7, 3), (15, .lreturn, 1)]
theorem tX2_part : Tb mX2_part.2.1 lX2_part := Tb.of (by decide +kernel)
def lX2_commonDivisor : List (Nat × Instr × Nat) := [(0, .lload_n 0, 1), (1, .invokestatic 24, 3), (4, .lstore 4, 2), (6, .lload_n 2, 1), (7, .invokestatic 24, 3), (10, .lstore 6, 2), (12, .iconst 0, 1), (13, .istore 8, 2), (15, .iload 8, 2), (17, .sipush 1000, 3), (20, .if_icmp .ge 31, 3), (23, .lload 6, 2), (25, .lconst 0, 1), (26, .lcmp, 1), (27, .ifCond .le 24, 3), (30, .lload 4, 2), (32, .lload 6, 2), (34, .lrem, 1), (35, .lstore 9, 2), (37, .lload 6, 2), (39, .lstore 4, 2), (41, .lload 9, 2), (43, .lstore 6, 2), (45, .iinc 8 1, 3), (48, .goto (-33), 3), (51, .lload 4, 2), (53, .lreturn, 1)]
theorem tX2_commonDivisor : Tb mX2_commonDivisor.2.1 lX2_commonDivisor := Tb.of (by decide +kernel)
def lX3_init : List (Nat × Instr × Nat) := [(0, .aload_n 0, 1), (1, .invokespecial 3, 3), (4, .aload_n 0, 1), (5, .iconst 0, 1), (6, .putfield 9, 3), (9, .aload_n 0, 1), (10, .iconst 0, 1), (11, .putfield 15, 3), (14, .aload_n 0, 1), (15, .iconst 0, 1), (16, .putfield 18, 3), (19, .aload_n 0, 1), (20, .iconst 0, 1), (21, .putfield 21, 3), (24, .aload_n 0, 1), (25, .bipush 15, 2), (27, .newarray .int, 2), (29, .putfield 24, 3), (32, .aload_n 0, 1), (33, .bipush 15, 2), (35, .newarray .int, 2), (37, .putfield 28, 3), (40, .aload_n 0, 1), (41, .bipush 36, 2), (43, .newarray .int, 2), (45, .putfield 31, 3), (48, .aload_n 0, 1), (49, .bipush 6, 2), (51, .newarray .int, 2), (53, .putfield 34, 3), (56, .aload_n 0, 1), (57, .bipush 6, 2), (59, .newarray .int, 2), (61, .putfield 37, 3), (64, .aload_n 0, 1), (65, .getstatic 40, 3), (68, .putfield 43, 3), (71, .return_, 1)]
theorem tX3_init : Tb mX3_init.2.1 lX3_init := Tb.of (by decide +kernel)
def lX3_copyFrom : List (Nat × Instr × Nat) := [(0, .aload_n 0, 1), (1, .aload_n 1, 1), (2, .getfield 9, 3), (5, .putfield 9, 3), (8, .aload_n 0, 1), (9, .aload_n 1, 1), (10, .getfield 15, 3), (13, .putfield 15, 3), (16, .aload_n 0, 1), (17, .aload_n 1, 1), (18, .getfield 18, 3), (21, .putfield 18, 3), (24, .aload_n 0, 1), (25, .aload_n 1, 1), (26, .getfield 21, 3), (29, .putfield 21, 3), (32, .aload_n 0, 1), (33, .aload_n 1, 1), (34, .getfield 43, 3), (37, .putfield 43, 3), (40, .aload_n 1, 1), (41, .getfield 24, 3), (44, .iconst 0, 1), (45, .aload_n 0, 1), (46, .getfield 24, 3), (49, .iconst 0, 1), (50, .bipush 15, 2), (52, .invokestatic 46, 3), (55, .aload_n 1, 1), (56, .getfield 28, 3), (59, .iconst 0, 1), (60, .aload_n 0, 1), (61, .getfield 28, 3), (64, .iconst 0, 1), (65, .bipush 15, 2), (67, .invokestatic 46, 3), (70, .aload_n 1, 1), (71, .getfield 31, 3), (74, .iconst 0, 1), (75, .aload_n 0, 1), (76, .getfield 31, 3), (79, .iconst 0, 1), (80, .bipush 36, 2), (82, .invokestatic 46, 3), (85, .aload_n 1, 1), (86, .getfield 34, 3), (89, .iconst 0, 1), (90, .aload_n 0, 1), (91, .getfield 34, 3), (94, .iconst 0, 1), (95, .bipush 6, 2), (97, .invokestatic 46, 3), (100, .return_, 1)]
theorem tX3_copyFrom : Tb mX3_copyFrom.2.1 lX3_copyFrom := Tb.of (by decide +kernel)
def lX3_clear : List (Nat × Instr × Nat) := [(0, .aload_n 0, 1), (1, .iconst 0, 1), (2, .bipush 6, 2), (4, .iload_n 1, 1), (5, .invokestatic 52, 3), (8, .invokestatic 58, 3), (11, .putfield 9, 3), (14, .aload_n 0, 1), (15, .iconst 0, 1), (16, .putfield 15, 3), (19, .aload_n 0, 1), (20, .iconst 0, 1), (21, .putfield 18, 3), (24, .aload_n 0, 1), (25, .aload_n 0, 1), (26, .getfield 9, 3), (29, .putfield 21, 3), (32, .aload_n 0, 1), (33, .getstatic 40, 3), (36, .putfield 43, 3), (39, .aload_n 0, 1), (40, .getfield 31, 3), (43, .iconst 0, 1), (44, .invokestatic 61, 3), (47, .iconst 0, 1), (48, .istore_n 2, 1), (49, .iload_n 2, 1), (50, .bipush 6, 2), (52, .if_icmp .ge 16, 3), (55, .aload_n 0, 1), (56, .getfield 34, 3), (59, .iload_n 2, 1), (60, .iload_n 2, 1), (61, .iastore, 1), (62, .iinc 2 1, 3), (65, .goto (-16), 3), (68, .return_, 1)]
theorem tX3_clear : Tb mX3_clear.2.1 lX3_clear := Tb.of (by decide +kernel)
def lX3_weightBetween : List (Nat × Instr × Nat) := [(0, .aload_n 0, 1), (1, .getfield 31, 3), (4, .iload_n 1, 1), (5, .bipush 6, 2), (7, .imul, 1), (8, .iload_n 2, 1), (9, .iadd, 1), (10, .iaload, 1), (11, .ireturn, 1)]
theorem tX3_weightBetween : Tb mX3_weightBetween.2.1 lX3_weightBetween := Tb.of (by decide +kernel)
def lX3_putWeight : List (Nat × Instr × Nat) := [(0, .aload_n 0, 1), (1, .getfield 31, 3), (4, .iload_n 1, 1), (5, .bipush 6, 2), (7, .imul, 1), (8, .iload_n 2, 1), (9, .iadd, 1), (10, .iload_n 3, 1), (11, .iastore, 1), (12, .aload_n 0, 1), (13, .getfield 31, 3), (16, .iload_n 2, 1), (17, .bipush 6, 2), (19, .imul, 1), (20, .iload_n 1, 1), (21, .iadd, 1), (22, .iload_n 3, 1), (23, .iastore, 1), (24, .return_, 1)]
theorem tX3_putWeight : Tb mX3_putWeight.2.1 lX3_putWeight := Tb.of (by decide +kernel)
def lX3_putEdge : List (Nat × Instr × Nat) := [(0, .aload_n 0, 1), (1, .getfield 15, 3), (4, .bipush 15, 2), (6, .if_icmp .ge 48, 3), (9, .aload_n 0, 1), (10, .getfield 24, 3), (13, .aload_n 0, 1), (14, .getfield 15, 3), (17, .iload_n 1, 1), (18, .iload_n 2, 1), (19, .invokestatic 52, 3), (22, .iastore, 1), (23, .aload_n 0, 1), (24, .getfield 28, 3), (27, .aload_n 0, 1), (28, .getfield 15, 3), (31, .iload_n 1, 1), (32, .iload_n 2, 1), (33, .invokestatic 58, 3), (36, .iastore, 1), (37, .aload_n 0, 1), (38, .dup, 1), (39, .getfield 15, 3), (42, .iconst 1, 1), (43, .iadd, 1), (44, .putfield 15, 3), (47, .aload_n 0, 1), (48, .iload_n 1, 1), (49, .iload_n 2, 1), (50, .iload_n 3, 1), (51, .invokevirtual 67, 3), (54, .return_, 1)]
theorem tX3_putEdge : Tb mX3_putEdge.2.1 lX3_putEdge := Tb.of (by decide +kernel)
def lX3_dropEdge : List (Nat × Instr × Nat) := [(0, .aload_n 0, 1), (1, .aload_n 0, 1), (2, .getfield 24, 3), (5, .iload_n 1, 1), (6, .iaload, 1), (7, .aload_n 0, 1), (8, .getfield 28, 3), (11, .iload_n 1, 1), (12, .iaload, 1), (13, .iconst 0, 1), (14, .invokevirtual 67, 3), (17, .aload_n 0, 1), (18, .dup, 1), (19, .getfield 15, 3), (22, .iconst 1, 1), (23, .isub, 1), (24, .putfield 15, 3), (27, .iload_n 1, 1), (28, .istore_n 2, 1), (29, .iload_n 2, 1), (30, .aload_n 0, 1), (31, .getfield 15, 3), (34, .if_icmp .ge 37, 3), (37, .aload_n 0, 1), (38, .getfield 24, 3), (41, .iload_n 2, 1), (42, .aload_n 0, 1), (43, .getfield 24, 3), (46, .iload_n 2, 1), (47, .iconst 1, 1), (48, .iadd, 1), (49, .iaload, 1), (50, .iastore, 1), (51, .aload_n 0, 1), (52, .getfield 28, 3), (55, .iload_n 2, 1), (56, .aload_n 0, 1), (57, .getfield 28, 3), (60, .iload_n 2, 1), (61, .iconst 1, 1), (62, .iadd, 1), (63, .iaload, 1), (64, .iastore, 1), (65, .iinc 2 1, 3), (68, .goto (-39), 3), (71, .return_, 1)]
theorem tX3_dropEdge : Tb mX3_dropEdge.2.1 lX3_dropEdge := Tb.of (by decide +kernel)
def lX3_isAbsorbing : List (Nat × Instr × Nat) := [(0, .aload_n 0, 1), (1, .getfield 18, 3), (4, .iload_n 1, 1), (5, .ishr, 1), (6, .iconst 1, 1), (7, .iand, 1), (8, .ifCond .eq 7, 3), (11, .iconst 1, 1), (12, .goto 4, 3), (15, .iconst 0, 1), (16, .ireturn, 1)]
theorem tX3_isAbsorbing : Tb mX3_isAbsorbing.2.1 lX3_isAbsorbing := Tb.of (by decide +kernel)
def lX3_sumOfWeights : List (Nat × Instr × Nat) := [(0, .iconst 0, 1), (1, .istore_n 2, 1), (2, .iconst 0, 1), (3, .istore_n 3, 1), (4, .iload_n 3, 1), (5, .aload_n 0, 1), (6, .getfield 9, 3), (9, .if_icmp .ge 18, 3), (12, .iload_n 2, 1), (13, .aload_n 0, 1), (14, .iload_n 1, 1), (15, .iload_n 3, 1), (16, .invokevirtual 71, 3), (19, .iadd, 1), (20, .istore_n 2, 1), (21, .iinc 3 1, 3), (24, .goto (-20), 3), (27, .iload_n 2, 1), (28, .ireturn, 1)]
theorem tX3_sumOfWeights : Tb mX3_sumOfWeights.2.1 lX3_sumOfWeights := Tb.of (by decide +kernel)
def lX3_component : List (Nat × Instr × Nat) := [(0, .iconst 1, 1), (1, .iload_n 1, 1), (2, .ishl, 1), (3, .istore_n 2, 1), (4, .iconst 1, 1), (5, .istore_n 3, 1), (6, .iload_n 3, 1), (7, .aload_n 0, 1), (8, .getfield 9, 3), (11, .if_icmp .ge 45, 3), (14, .iconst 0, 1), (15, .istore 4, 2), (17, .iload 4, 2), (19, .aload_n 0, 1), (20, .getfield 9, 3), (23, .if_icmp .ge 27, 3), (26, .iload_n 2, 1), (27, .iload 4, 2), (29, .ishr, 1), (30, .iconst 1, 1), (31, .iand, 1), (32, .ifCond .eq 12, 3), (35, .iload_n 2, 1), (36, .aload_n 0, 1), (37, .iload 4, 2), (39, .invokevirtual 74, 3), (42, .ior, 1), (43, .istore_n 2, 1), (44, .iinc 4 1, 3), (47, .goto (-30), 3), (50, .iinc 3 1, 3), (53, .goto (-47), 3), (56, .iload_n 2, 1), (57, .ireturn, 1)]
theorem tX3_component : Tb mX3_component.2.1 lX3_component := Tb.of (by decide +kernel)
def lX3_hasWay : List (Nat × Instr × Nat) := [(0, .aload_n 0, 1), (1, .iload_n 1, 1), (2, .invokevirtual 78, 3), (5, .iload_n 2, 1), (6, .ishr, 1), (7, .iconst 1, 1), (8, .iand, 1), (9, .ifCond .eq 7, 3), (12, .iconst 1, 1), (13, .goto 4, 3), (16, .iconst 0, 1), (17, .ireturn, 1)]
theorem tX3_hasWay : Tb mX3_hasWay.2.1 lX3_hasWay := Tb.of (by decide +kernel)
def lX3_stepChance : List (Nat × Instr × Nat) := [(0, .aload_n 0, 1), (1, .iload_n 1, 1), (2, .invokevirtual 81, 3), (5, .istore 4, 2), (7, .iload 4, 2), (9, .ifCond .le 20, 3), (12, .aload_n 3, 1), (13, .aload_n 0, 1), (14, .iload_n 1, 1), (15, .iload_n 2, 1), (16, .invokevirtual 71, 3), (19, .i2l, 1), (20, .iload 4, 2), (22, .i2l, 1), (23, .invokevirtual 84, 3), (26, .goto 18, 3), (29, .aload_n 3, 1), (30, .iload_n 1, 1), (31, .iload_n 2, 1), (32, .if_icmp .ne 7, 3), (35, .lconst 1, 1), (36, .goto 4, 3), (39, .lconst 0, 1), (40, .lconst 1, 1), (41, .invokevirtual 84, 3), (44, .return_, 1)]
theorem tX3_stepChance : Tb mX3_stepChance.2.1 lX3_stepChance := Tb.of (by decide +kernel)
def lX3_uniteBlocks : List (Nat × Instr × Nat) := [(0, .aload_n 0, 1), (1, .getfield 34, 3), (4, .iload_n 1, 1), (5, .iaload, 1), (6, .istore_n 3, 1), (7, .aload_n 0, 1), (8, .getfield 34, 3), (11, .iload_n 2, 1), (12, .iaload, 1), (13, .istore 4, 2), (15, .iconst 0, 1), (16, .istore 5, 2), (18, .iload 5, 2), (20, .aload_n 0, 1), (21, .getfield 9, 3), (24, .if_icmp .ge 29, 3), (27, .aload_n 0, 1), (28, .getfield 34, 3), (31, .iload 5, 2), (33, .iaload, 1), (34, .iload 4, 2), (36, .if_icmp .ne 11, 3), (39, .aload_n 0, 1), (40, .getfield 34, 3), (43, .iload 5, 2), (45, .iload_n 3, 1), (46, .iastore, 1), (47, .iinc 5 1, 3), (50, .goto (-32), 3), (53, .aload_n 0, 1), (54, .invokevirtual 90, 3), (57, .return_, 1)]
theorem tX3_uniteBlocks : Tb mX3_uniteBlocks.2.1 lX3_uniteBlocks := Tb.of (by decide +kernel)
def lX3_isolateInBlock : List (Nat × Instr × Nat) := [(0, .aload_n 0, 1), (1, .getfield 34, 3), (4, .iload_n 1, 1), (5, .bipush 6, 2), (7, .iastore, 1), (8, .aload_n 0, 1), (9, .invokevirtual 90, 3), (12, .return_, 1)]
theorem tX3_isolateInBlock : Tb mX3_isolateInBlock.2.1 lX3_isolateInBlock := Tb.of (by decide +kernel)
def lX3_numberBlocks : List (Nat × Instr × Nat) := [(0, .aload_n 0, 1), (1, .getfield 34, 3), (4, .iconst 0, 1), (5, .aload_n 0, 1), (6, .getfield 37, 3), (9, .iconst 0, 1), (10, .bipush 6, 2), (12, .invokestatic 46, 3), (15, .aload_n 0, 1), (16, .iconst 0, 1), (17, .putfield 21, 3), (20, .iconst 0, 1), (21, .istore_n 1, 1), (22, .iload_n 1, 1), (23, .aload_n 0, 1), (24, .getfield 9, 3), (27, .if_icmp .ge 77, 3), (30, .iconst 0, 1), (31, .istore_n 2, 1), (32, .iload_n 2, 1), (33, .iload_n 1, 1), (34, .if_icmp .ge 24, 3), (37, .aload_n 0, 1), (38, .getfield 37, 3), (41, .iload_n 2, 1), (42, .iaload, 1), (43, .aload_n 0, 1), (44, .getfield 37, 3), (47, .iload_n 1, 1), (48, .iaload, 1), (49, .if_icmp .eq 9, 3), (52, .iinc 2 1, 3), (55, .goto (-23), 3), (58, .iload_n 2, 1), (59, .iload_n 1, 1), (60, .if_icmp .ge 18, 3), (63, .aload_n 0, 1), (64, .getfield 34, 3), (67, .iload_n 1, 1), (68, .aload_n 0, 1), (69, .getfield 34, 3), (72, .iload_n 2, 1), (73, .iaload, 1), (74, .iastore, 1), (75, .goto 23, 3), (78, .aload_n 0, 1), (79, .getfield 34, 3), (82, .iload_n 1, 1), (83, .aload_n 0, 1), (84, .getfield 21, 3), (87, .iastore, 1), (88, .aload_n 0, 1), (89, .dup, 1), (90, .getfield 21, 3), (93, .iconst 1, 1), (94, .iadd, 1), (95, .putfield 21, 3), (98, .iinc 1 1, 3), (101, .goto (-79), 3), (104, .return_, 1)]
theorem tX3_numberBlocks : Tb mX3_numberBlocks.2.1 lX3_numberBlocks := Tb.of (by decide +kernel)
def lX3_neighbours : List (Nat × Instr × Nat) := [(0, .iconst 0, 1), (1, .istore_n 2, 1), (2, .iconst 0, 1), (3, .istore_n 3, 1), (4, .iload_n 3, 1), (5, .aload_n 0, 1), (6, .getfield 9, 3), (9, .if_icmp .ge 24, 3), (12, .aload_n 0, 1), (13, .iload_n 1, 1), (14, .iload_n 3, 1), (15, .invokevirtual 71, 3), (18, .ifCond .eq 9, 3), (21, .iload_n 2, 1), (22, .iconst 1, 1), (23, .iload_n 3, 1), (24, .ishl, 1), (25, .ior, 1), (26, .istore_n 2, 1), (27, .iinc 3 1, 3), (30, .goto (-26), 3), (33, .iload_n 2, 1), (34, .ireturn, 1)]
theorem tX3_neighbours : Tb mX3_neighbours.2.1 lX3_neighbours := Tb.of (by decide +kernel)
def lX4_init : List (Nat × Instr × Nat) := [(0, .aload_n 0, 1), (1, .invokespecial 3, 3), (4, .aload_n 0, 1), (5, .bipush 8, 2), (7, .anewarray 9, 3), (10, .putfield 11, 3), (13, .aload_n 0, 1), (14, .iconst 0, 1), (15, .putfield 17, 3), (18, .aload_n 0, 1), (19, .iconst 0, 1), (20, .putfield 21, 3), (23, .iconst 0, 1), (24, .istore_n 1, 1), (25, .iload_n 1, 1), (26, .bipush 8, 2), (28, .if_icmp .ge 22, 3), (31, .aload_n 0, 1), (32, .getfield 11, 3), (35, .iload_n 1, 1), (36, .new 9, 3), (39, .dup, 1), (40, .invokespecial 24, 3), (43, .aastore, 1), (44, .iinc 1 1, 3), (47, .goto (-22), 3), (50, .return_, 1)]
theorem tX4_init : Tb mX4_init.2.1 lX4_init := Tb.of (by decide +kernel)
def lX4_keep : List (Nat × Instr × Nat) := [(0, .aload_n 0, 1), (1, .getfield 11, 3), (4, .aload_n 0, 1), (5, .getfield 17, 3), (8, .aaload, 1), (9, .aload_n 1, 1), (10, .invokevirtual 25, 3), (13, .aload_n 0, 1), (14, .aload_n 0, 1), (15, .getfield 17, 3), (18, .iconst 1, 1), (19, .iadd, 1), (20, .bipush 8, 2), (22, .irem, 1), (23, .putfield 17, 3), (26, .aload_n 0, 1), (27, .aload_n 0, 1), (28, .getfield 21, 3), (31, .iconst 1, 1), (32, .iadd, 1), (33, .bipush 8, 2), (35, .invokestatic 29, 3), (38, .putfield 21, 3), (41, .return_, 1)]
theorem tX4_keep : Tb mX4_keep.2.1 lX4_keep := Tb.of (by decide +kernel)
def lX4_restore : List (Nat × Instr × Nat) := [(0, .aload_n 0, 1), (1, .getfield 21, 3), (4, .ifCond .ne 5, 3), (7, .iconst (-1), 1), (8, .ireturn, 1), (9, .aload_n 0, 1), (10, .aload_n 0, 1), (11, .getfield 17, 3), (14, .bipush 8, 2), (16, .iadd, 1), (17, .iconst 1, 1), (18, .isub, 1), (19, .bipush 8, 2), (21, .irem, 1), (22, .putfield 17, 3), (25, .aload_n 0, 1), (26, .dup, 1), (27, .getfield 21, 3), (30, .iconst 1, 1), (31, .isub, 1), (32, .putfield 21, 3), (35, .aload_n 1, 1), (36, .aload_n 0, 1), (37, .getfield 11, 3), (40, .aload_n 0, 1), (41, .getfield 17, 3), (44, .aaload, 1), (45, .invokevirtual 25, 3), (48, .aload_n 0, 1), (49, .getfield 21, 3), (52, .ireturn, 1)]
theorem tX4_restore : Tb mX4_restore.2.1 lX4_restore := Tb.of (by decide +kernel)
def lX5_init : List (Nat × Instr × Nat) := [(0, .aload_n 0, 1), (1, .invokespecial 3, 3), (4, .aload_n 0, 1), (5, .new 9, 3), (8, .dup, 1), (9, .invokespecial 11, 3), (12, .putfield 12, 3), (15, .aload_n 0, 1), (16, .bipush 6, 2), (18, .newarray .long, 2), (20, .putfield 18, 3), (23, .aload_n 0, 1), (24, .bipush 6, 2), (26, .newarray .int, 2), (28, .putfield 22, 3), (31, .return_, 1)]
theorem tX5_init : Tb mX5_init.2.1 lX5_init := Tb.of (by decide +kernel)
def lX5_firstParted : List (Nat × Instr × Nat) := [(0, .iconst 0, 1), (1, .istore_n 2, 1), (2, .iload_n 2, 1), (3, .aload_n 1, 1), (4, .getfield 26, 3), (7, .if_icmp .ge 68, 3), (10, .iload_n 2, 1), (11, .iconst 1, 1), (12, .iadd, 1), (13, .istore_n 3, 1), (14, .iload_n 3, 1), (15, .aload_n 1, 1), (16, .getfield 26, 3), (19, .if_icmp .ge 50, 3), (22, .aload_n 1, 1), (23, .getfield 30, 3), (26, .iload_n 2, 1), (27, .iaload, 1), (28, .aload_n 1, 1), (29, .getfield 30, 3), (32, .iload_n 3, 1), (33, .iaload, 1), (34, .if_icmp .ne 29, 3), (37, .aload_n 1, 1), (38, .iload_n 2, 1), (39, .iload_n 3, 1), (40, .invokestatic 33, 3), (43, .istore 4, 2), (45, .iload 4, 2), (47, .ifCond .lt 16, 3), (50, .bipush 100, 2), (52, .iload_n 2, 1), (53, .imul, 1), (54, .bipush 10, 2), (56, .iload_n 3, 1), (57, .imul, 1), (58, .iadd, 1), (59, .iload 4, 2), (61, .iadd, 1), (62, .ireturn, 1), (63, .iinc 3 1, 3), (66, .goto (-52), 3), (69, .iinc 2 1, 3), (72, .goto (-70), 3), (75, .iconst (-1), 1), (76, .ireturn, 1)]
theorem tX5_firstParted : Tb mX5_firstParted.2.1 lX5_firstParted := Tb.of (by decide +kernel)
def lX5_refineBlocks : List (Nat × Instr × Nat) := [(0, .iconst 0, 1), (1, .istore_n 2, 1), (2, .iload_n 2, 1), (3, .bipush 6, 2), (5, .if_icmp .ge 22, 3), (8, .aload_n 0, 1), (9, .aload_n 1, 1), (10, .invokevirtual 37, 3), (13, .ifCond .lt 14, 3), (16, .aload_n 0, 1), (17, .aload_n 1, 1), (18, .invokevirtual 41, 3), (21, .iinc 2 1, 3), (24, .goto (-22), 3), (27, .return_, 1)]
theorem tX5_refineBlocks : Tb mX5_refineBlocks.2.1 lX5_refineBlocks := Tb.of (by decide +kernel)
def lX5_lumpBlocks : List (Nat × Instr × Nat) := [(0, .aload_n 0, 1), (1, .getfield 12, 3), (4, .aload_n 1, 1), (5, .getfield 45, 3), (8, .invokevirtual 48, 3), (11, .aload_n 0, 1), (12, .getfield 18, 3), (15, .lconst 0, 1), (16, .invokestatic 52, 3), (19, .iconst 0, 1), (20, .istore_n 2, 1), (21, .iload_n 2, 1), (22, .aload_n 1, 1), (23, .getfield 26, 3), (26, .if_icmp .ge 79, 3), (29, .aload_n 1, 1), (30, .getfield 30, 3), (33, .iload_n 2, 1), (34, .iaload, 1), (35, .istore_n 3, 1), (36, .aload_n 0, 1), (37, .getfield 18, 3), (40, .iload_n 3, 1), (41, .dup2, 1), (42, .laload, 1), (43, .aload_n 1, 1), (44, .iload_n 2, 1), (45, .invokevirtual 58, 3), (48, .i2l, 1), (49, .ladd, 1), (50, .lastore, 1), (51, .iload_n 3, 1), (52, .iconst 1, 1), (53, .iadd, 1), (54, .istore 4, 2), (56, .iload 4, 2), (58, .aload_n 1, 1), (59, .getfield 45, 3), (62, .if_icmp .ge 37, 3), (65, .aload_n 0, 1), (66, .getfield 12, 3), (69, .iload_n 3, 1), (70, .iload 4, 2), (72, .aload_n 0, 1), (73, .getfield 12, 3), (76, .iload_n 3, 1), (77, .iload 4, 2), (79, .invokevirtual 62, 3), (82, .aload_n 1, 1), (83, .iload_n 2, 1), (84, .iload 4, 2), (86, .invokestatic 66, 3), (89, .iadd, 1), (90, .invokevirtual 69, 3), (93, .iinc 4 1, 3), (96, .goto (-40), 3), (99, .iinc 2 1, 3), (102, .goto (-81), 3), (105, .return_, 1)]
theorem tX5_lumpBlocks : Tb mX5_lumpBlocks.2.1 lX5_lumpBlocks := Tb.of (by decide +kernel)
def lX5_blockChance : List (Nat × Instr × Nat) := [(0, .aload_n 0, 1), (1, .getfield 18, 3), (4, .iload_n 1, 1), (5, .laload, 1), (6, .lstore 4, 2), (8, .lload 4, 2), (10, .lconst 0, 1), (11, .lcmp, 1), (12, .ifCond .gt 21, 3), (15, .aload_n 3, 1), (16, .iload_n 1, 1), (17, .iload_n 2, 1), (18, .if_icmp .ne 7, 3), (21, .lconst 1, 1), (22, .goto 4, 3), (25, .lconst 0, 1), (26, .lconst 1, 1), (27, .invokevirtual 73, 3), (30, .goto 45, 3), (33, .iload_n 1, 1), (34, .iload_n 2, 1), (35, .if_icmp .ne 24, 3), (38, .aload_n 3, 1), (39, .lload 4, 2), (41, .aload_n 0, 1), (42, .getfield 12, 3), (45, .iload_n 1, 1), (46, .invokevirtual 58, 3), (49, .i2l, 1), (50, .lsub, 1), (51, .lload 4, 2), (53, .invokevirtual 73, 3), (56, .goto 19, 3), (59, .aload_n 3, 1), (60, .aload_n 0, 1), (61, .getfield 12, 3), (64, .iload_n 1, 1), (65, .iload_n 2, 1), (66, .invokevirtual 62, 3), (69, .i2l, 1), (70, .lload 4, 2), (72, .invokevirtual 73, 3), (75, .return_, 1)]
theorem tX5_blockChance : Tb mX5_blockChance.2.1 lX5_blockChance := Tb.of (by decide +kernel)
def lX5_firstDifference : List (Nat × Instr × Nat) := [(0, .iconst 1, 1), (1, .aload_n 0, 1), (2, .iload_n 1, 1), (3, .invokevirtual 58, 3), (6, .invokestatic 79, 3), (9, .istore_n 3, 1), (10, .iconst 1, 1), (11, .aload_n 0, 1), (12, .iload_n 2, 1), (13, .invokevirtual 58, 3), (16, .invokestatic 79, 3), (19, .istore 4, 2), (21, .iconst 0, 1), (22, .istore 5, 2), (24, .iload 5, 2), (26, .aload_n 0, 1), (27, .getfield 45, 3), (30, .if_icmp .ge 45, 3), (33, .iload 5, 2), (35, .aload_n 0, 1), (36, .getfield 30, 3), (39, .iload_n 1, 1), (40, .iaload, 1), (41, .if_icmp .eq 28, 3), (44, .aload_n 0, 1), (45, .iload_n 1, 1), (46, .iload 5, 2), (48, .invokestatic 66, 3), (51, .iload 4, 2), (53, .imul, 1), (54, .aload_n 0, 1), (55, .iload_n 2, 1), (56, .iload 5, 2), (58, .invokestatic 66, 3), (61, .iload_n 3, 1), (62, .imul, 1), (63, .if_icmp .eq 6, 3), (66, .iload 5, 2), (68, .ireturn, 1), (69, .iinc 5 1, 3), (72, .goto (-48), 3), (75, .iconst (-1), 1), (76, .ireturn, 1)]
theorem tX5_firstDifference : Tb mX5_firstDifference.2.1 lX5_firstDifference := Tb.of (by decide +kernel)
def lX5_weightTo : List (Nat × Instr × Nat) := [(0, .iconst 0, 1), (1, .istore_n 3, 1), (2, .iconst 0, 1), (3, .istore 4, 2), (5, .iload 4, 2), (7, .aload_n 0, 1), (8, .getfield 26, 3), (11, .if_icmp .ge 30, 3), (14, .aload_n 0, 1), (15, .getfield 30, 3), (18, .iload 4, 2), (20, .iaload, 1), (21, .iload_n 2, 1), (22, .if_icmp .ne 13, 3), (25, .iload_n 3, 1), (26, .aload_n 0, 1), (27, .iload_n 1, 1), (28, .iload 4, 2), (30, .invokevirtual 62, 3), (33, .iadd, 1), (34, .istore_n 3, 1), (35, .iinc 4 1, 3), (38, .goto (-33), 3), (41, .iload_n 3, 1), (42, .ireturn, 1)]
theorem tX5_weightTo : Tb mX5_weightTo.2.1 lX5_weightTo := Tb.of (by decide +kernel)
def lX5_divideAll : List (Nat × Instr × Nat) := [(0, .iconst 0, 1), (1, .istore_n 2, 1), (2, .iconst 0, 1), (3, .istore_n 3, 1), (4, .iload_n 3, 1), (5, .aload_n 1, 1), (6, .getfield 26, 3), (9, .if_icmp .ge 66, 3), (12, .iconst 0, 1), (13, .istore 4, 2), (15, .iload 4, 2), (17, .iload_n 3, 1), (18, .if_icmp .ge 19, 3), (21, .aload_n 1, 1), (22, .iload 4, 2), (24, .iload_n 3, 1), (25, .invokestatic 84, 3), (28, .ifCond .ne 9, 3), (31, .iinc 4 1, 3), (34, .goto (-19), 3), (37, .iload 4, 2), (39, .iload_n 3, 1), (40, .if_icmp .ge 19, 3), (43, .aload_n 0, 1), (44, .getfield 22, 3), (47, .iload_n 3, 1), (48, .aload_n 0, 1), (49, .getfield 22, 3), (52, .iload 4, 2), (54, .iaload, 1), (55, .iastore, 1), (56, .goto 13, 3), (59, .aload_n 0, 1), (60, .getfield 22, 3), (63, .iload_n 3, 1), (64, .iload_n 2, 1), (65, .iastore, 1), (66, .iinc 2 1, 3), (69, .iinc 3 1, 3), (72, .goto (-68), 3), (75, .aload_n 0, 1), (76, .getfield 22, 3), (79, .iconst 0, 1), (80, .aload_n 1, 1), (81, .getfield 30, 3), (84, .iconst 0, 1), (85, .aload_n 1, 1), (86, .getfield 26, 3), (89, .invokestatic 88, 3), (92, .aload_n 1, 1), (93, .iload_n 2, 1), (94, .putfield 45, 3), (97, .return_, 1)]
theorem tX5_divideAll : Tb mX5_divideAll.2.1 lX5_divideAll := Tb.of (by decide +kernel)
def lX5_staysWith : List (Nat × Instr × Nat) := [(0, .aload_n 0, 1), (1, .getfield 30, 3), (4, .iload_n 1, 1), (5, .iaload, 1), (6, .aload_n 0, 1), (7, .getfield 30, 3), (10, .iload_n 2, 1), (11, .iaload, 1), (12, .if_icmp .ne 16, 3), (15, .aload_n 0, 1), (16, .iload_n 1, 1), (17, .iload_n 2, 1), (18, .invokestatic 33, 3), (21, .ifCond .ge 7, 3), (24, .iconst 1, 1), (25, .goto 4, 3), (28, .iconst 0, 1), (29, .ireturn, 1)]
theorem tX5_staysWith : Tb mX5_staysWith.2.1 lX5_staysWith := Tb.of (by decide +kernel)
def lX6_init : List (Nat × Instr × Nat) := [(0, .aload_n 0, 1), (1, .invokespecial 3, 3), (4, .aload_n 0, 1), (5, .new 9, 3), (8, .dup, 1), (9, .invokespecial 11, 3), (12, .putfield 12, 3), (15, .aload_n 0, 1), (16, .new 18, 3), (19, .dup, 1), (20, .invokespecial 20, 3), (23, .putfield 21, 3), (26, .aload_n 0, 1), (27, .iconst 0, 1), (28, .putfield 25, 3), (31, .aload_n 0, 1), (32, .iconst (-1), 1), (33, .putfield 29, 3), (36, .aload_n 0, 1), (37, .iconst 0, 1), (38, .putfield 32, 3), (41, .aload_n 0, 1), (42, .sipush 256, 3), (45, .putfield 35, 3), (48, .aload_n 0, 1), (49, .iconst 0, 1), (50, .putfield 38, 3), (53, .aload_n 0, 1), (54, .iconst 0, 1), (55, .putfield 41, 3), (58, .aload_n 0, 1), (59, .iconst 0, 1), (60, .putfield 44, 3), (63, .aload_n 0, 1), (64, .sipush 600, 3), (67, .newarray .int, 2), (69, .putfield 48, 3), (72, .aload_n 0, 1), (73, .iconst 0, 1), (74, .putfield 52, 3), (77, .aload_n 0, 1), (78, .bipush 14, 2), (80, .newarray .int, 2), (82, .putfield 55, 3), (85, .aload_n 0, 1), (86, .iconst 0, 1), (87, .putfield 58, 3), (90, .return_, 1)]
theorem tX6_init : Tb mX6_init.2.1 lX6_init := Tb.of (by decide +kernel)
def lX6_readSetup : List (Nat × Instr × Nat) := [(0, .aload_n 0, 1), (1, .iconst 0, 1), (2, .putfield 32, 3), (5, .aload_n 0, 1), (6, .iconst 0, 1), (7, .putfield 44, 3), (10, .aload_n 0, 1), (11, .invokevirtual 61, 3), (14, .aload_n 0, 1), (15, .getfield 35, 3), (18, .sipush 258, 3), (21, .if_icmp .eq 10, 3), (24, .aload_n 0, 1), (25, .bipush (-2), 2), (27, .invokevirtual 64, 3), (30, .ireturn, 1), (31, .aload_n 0, 1), (32, .iconst 2, 1), (33, .bipush 6, 2), (35, .invokevirtual 68, 3), (38, .ifCond .ne 5, 3), (41, .iconst 0, 1), (42, .ireturn, 1), (43, .aload_n 0, 1), (44, .getfield 21, 3), (47, .aload_n 0, 1), (48, .getfield 41, 3), (51, .invokevirtual 72, 3), (54, .aload_n 0, 1), (55, .invokevirtual 76, 3), (58, .ifCond .ne 5, 3), (61, .iconst 0, 1), (62, .ireturn, 1), (63, .iconst 0, 1), (64, .istore_n 1, 1), (65, .iload_n 1, 1), (66, .aload_n 0, 1), (67, .getfield 12, 3), (70, .getfield 80, 3), (73, .if_icmp .ge 34, 3), (76, .aload_n 0, 1), (77, .invokevirtual 61, 3), (80, .aload_n 0, 1), (81, .getfield 35, 3), (84, .sipush 256, 3), (87, .if_icmp .ne 5, 3), (90, .iconst 1, 1), (91, .ireturn, 1), (92, .aload_n 0, 1), (93, .invokevirtual 83, 3), (96, .ifCond .ne 5, 3), (99, .iconst 0, 1), (100, .ireturn, 1), (101, .iinc 1 1, 3), (104, .goto (-39), 3), (107, .aload_n 0, 1), (108, .bipush (-2), 2), (110, .invokevirtual 64, 3), (113, .ireturn, 1)]
theorem tX6_readSetup : Tb mX6_readSetup.2.1 lX6_readSetup := Tb.of (by decide +kernel)
def lX6_readStatement : List (Nat × Instr × Nat) := [(0, .aload_n 0, 1), (1, .getfield 35, 3), (4, .tableswitch 97 259 262 #[32, 52, 72, 92], 32), (36, .aload_n 0, 1), (37, .invokevirtual 86, 3), (40, .ifCond .eq 14, 3), (43, .aload_n 0, 1), (44, .invokevirtual 76, 3), (47, .ifCond .eq 7, 3), (50, .iconst 1, 1), (51, .goto 4, 3), (54, .iconst 0, 1), (55, .ireturn, 1), (56, .aload_n 0, 1), (57, .invokevirtual 89, 3), (60, .ifCond .eq 14, 3), (63, .aload_n 0, 1), (64, .invokevirtual 76, 3), (67, .ifCond .eq 7, 3), (70, .iconst 1, 1), (71, .goto 4, 3), (74, .iconst 0, 1), (75, .ireturn, 1), (76, .aload_n 0, 1), (77, .invokevirtual 92, 3), (80, .ifCond .eq 14, 3), (83, .aload_n 0, 1), (84, .invokevirtual 76, 3), (87, .ifCond .eq 7, 3), (90, .iconst 1, 1), (91, .goto 4, 3), (94, .iconst 0, 1), (95, .ireturn, 1), (96, .aload_n 0, 1), (97, .invokevirtual 95, 3), (100, .ireturn, 1), (101, .aload_n 0, 1), (102, .bipush (-2), 2), (104, .invokevirtual 64, 3), (107, .ireturn, 1)]
theorem tX6_readStatement : Tb mX6_readStatement.2.1 lX6_readStatement := Tb.of (by decide +kernel)
def lX6_readEdge : List (Nat × Instr × Nat) := [(0, .aload_n 0, 1), (1, .invokevirtual 98, 3), (4, .ifCond .ne 5, 3), (7, .iconst 0, 1), (8, .ireturn, 1), (9, .aload_n 0, 1), (10, .getfield 41, 3), (13, .istore_n 1, 1), (14, .aload_n 0, 1), (15, .invokevirtual 98, 3), (18, .ifCond .ne 5, 3), (21, .iconst 0, 1), (22, .ireturn, 1), (23, .aload_n 0, 1), (24, .getfield 41, 3), (27, .istore_n 2, 1), (28, .iload_n 1, 1), (29, .iload_n 2, 1), (30, .if_icmp .eq 15, 3), (33, .aload_n 0, 1), (34, .getfield 21, 3), (37, .iload_n 1, 1), (38, .iload_n 2, 1), (39, .invokevirtual 101, 3), (42, .ifCond .eq 10, 3), (45, .aload_n 0, 1), (46, .bipush (-4), 2), (48, .invokevirtual 64, 3), (51, .ireturn, 1), (52, .aload_n 0, 1), (53, .iconst 1, 1), (54, .bipush 9, 2), (56, .invokevirtual 68, 3), (59, .ifCond .ne 5, 3), (62, .iconst 0, 1), (63, .ireturn, 1), (64, .aload_n 0, 1), (65, .getfield 21, 3), (68, .iload_n 1, 1), (69, .iload_n 2, 1), (70, .aload_n 0, 1), (71, .getfield 41, 3), (74, .invokevirtual 105, 3), (77, .iconst 1, 1), (78, .ireturn, 1)]
theorem tX6_readEdge : Tb mX6_readEdge.2.1 lX6_readEdge := Tb.of (by decide +kernel)
def lX6_readAbsorb : List (Nat × Instr × Nat) := [(0, .aload_n 0, 1), (1, .invokevirtual 98, 3), (4, .ifCond .ne 5, 3), (7, .iconst 0, 1), (8, .ireturn, 1), (9, .aload_n 0, 1), (10, .getfield 21, 3), (13, .aload_n 0, 1), (14, .getfield 41, 3), (17, .invokevirtual 109, 3), (20, .ifCond .eq 10, 3), (23, .aload_n 0, 1), (24, .bipush (-4), 2), (26, .invokevirtual 64, 3), (29, .ireturn, 1), (30, .aload_n 0, 1), (31, .getfield 21, 3), (34, .dup, 1), (35, .getfield 112, 3), (38, .iconst 1, 1), (39, .aload_n 0, 1), (40, .getfield 41, 3), (43, .ishl, 1), (44, .ior, 1), (45, .putfield 112, 3), (48, .iconst 1, 1), (49, .ireturn, 1)]
theorem tX6_readAbsorb : Tb mX6_readAbsorb.2.1 lX6_readAbsorb := Tb.of (by decide +kernel)
def lX6_readJoin : List (Nat × Instr × Nat) := [(0, .aload_n 0, 1), (1, .invokevirtual 98, 3), (4, .ifCond .ne 5, 3), (7, .iconst 0, 1), (8, .ireturn, 1), (9, .aload_n 0, 1), (10, .getfield 41, 3), (13, .istore_n 1, 1), (14, .aload_n 0, 1), (15, .invokevirtual 98, 3), (18, .ifCond .ne 5, 3), (21, .iconst 0, 1), (22, .ireturn, 1), (23, .aload_n 0, 1), (24, .getfield 21, 3), (27, .iload_n 1, 1), (28, .aload_n 0, 1), (29, .getfield 41, 3), (32, .invokevirtual 115, 3), (35, .iconst 1, 1), (36, .ireturn, 1)]
theorem tX6_readJoin : Tb mX6_readJoin.2.1 lX6_readJoin := Tb.of (by decide +kernel)
def lX6_readCost : List (Nat × Instr × Nat) := [(0, .aload_n 0, 1), (1, .getfield 44, 3), (4, .ifCond .eq 10, 3), (7, .aload_n 0, 1), (8, .bipush (-2), 2), (10, .invokevirtual 64, 3), (13, .ireturn, 1), (14, .aload_n 0, 1), (15, .iconst 1, 1), (16, .putfield 44, 3), (19, .aload_n 0, 1), (20, .iconst 0, 1), (21, .putfield 52, 3), (24, .aload_n 0, 1), (25, .iconst 0, 1), (26, .putfield 58, 3), (29, .iconst 0, 1), (30, .istore_n 1, 1), (31, .iconst 1, 1), (32, .istore_n 2, 1), (33, .iconst 0, 1), (34, .istore_n 3, 1), (35, .iload_n 3, 1), (36, .aload_n 0, 1), (37, .getfield 12, 3), (40, .getfield 80, 3), (43, .if_icmp .ge 183, 3), (46, .aload_n 0, 1), (47, .invokevirtual 61, 3), (50, .iload_n 2, 1), (51, .ifCond .eq 38, 3), (54, .aload_n 0, 1), (55, .getfield 35, 3), (58, .bipush 40, 2), (60, .if_icmp .ne 29, 3), (63, .iload_n 1, 1), (64, .iconst 4, 1), (65, .if_icmp .lt 10, 3), (68, .aload_n 0, 1), (69, .bipush (-5), 2), (71, .invokevirtual 64, 3), (74, .ireturn, 1), (75, .iinc 1 1, 3), (78, .aload_n 0, 1), (79, .aload_n 0, 1), (80, .getfield 35, 3), (83, .invokevirtual 119, 3), (86, .goto 134, 3), (89, .iload_n 2, 1), (90, .ifCond .eq 17, 3), (93, .aload_n 0, 1), (94, .invokevirtual 122, 3), (97, .ifCond .ne 5, 3), (100, .iconst 0, 1), (101, .ireturn, 1), (102, .iconst 0, 1), (103, .istore_n 2, 1), (104, .goto 116, 3), (107, .aload_n 0, 1), (108, .getfield 35, 3), (111, .invokestatic 125, 3), (114, .ifCond .le 27, 3), (117, .aload_n 0, 1), (118, .aload_n 0, 1), (119, .getfield 35, 3), (122, .invokestatic 125, 3), (125, .invokevirtual 129, 3), (128, .aload_n 0, 1), (129, .aload_n 0, 1), (130, .getfield 35, 3), (133, .invokevirtual 119, 3), (136, .iconst 1, 1), (137, .istore_n 2, 1), (138, .goto 82, 3), (141, .aload_n 0, 1), (142, .getfield 35, 3), (145, .bipush 41, 2), (147, .if_icmp .ne 28, 3), (150, .iload_n 1, 1), (151, .ifCond .le 24, 3), (154, .aload_n 0, 1), (155, .iconst 1, 1), (156, .invokevirtual 129, 3), (159, .aload_n 0, 1), (160, .dup, 1), (161, .getfield 58, 3), (164, .iconst 1, 1), (165, .isub, 1), (166, .putfield 58, 3), (169, .iinc 1 (-1), 3), (172, .goto 48, 3), (175, .aload_n 0, 1), (176, .getfield 35, 3), (179, .bipush 59, 2), (181, .if_icmp .ne 32, 3), (184, .iload_n 1, 1), (185, .ifCond .ne 28, 3), (188, .aload_n 0, 1), (189, .iconst 1, 1), (190, .invokevirtual 129, 3), (193, .aload_n 0, 1), (194, .getfield 21, 3), (197, .aload_n 0, 1), (198, .getfield 48, 3), (201, .aload_n 0, 1), (202, .getfield 52, 3), (205, .invokestatic 132, 3), (208, .putfield 138, 3), (211, .iconst 1, 1), (212, .ireturn, 1), (213, .aload_n 0, 1), (214, .bipush (-2), 2), (216, .invokevirtual 64, 3), (219, .ireturn, 1), (220, .iinc 3 1, 3), (223, .goto (-188), 3), (226, .aload_n 0, 1), (227, .bipush (-2), 2), (229, .invokevirtual 64, 3), (232, .ireturn, 1)]
theorem tX6_readCost : Tb mX6_readCost.2.1 lX6_readCost := Tb.of (by decide +kernel)
def lX6_readFactor : List (Nat × Instr × Nat) := [(0, .aload_n 0, 1), (1, .getfield 35, 3), (4, .tableswitch 102 257 265 #[52, 102, 102, 102, 102, 102, 79, 86, 94], 52), (56, .aload_n 0, 1), (57, .getfield 41, 3), (60, .sipush 9999, 3), (63, .if_icmp .le 10, 3), (66, .aload_n 0, 1), (67, .bipush (-3), 2), (69, .invokevirtual 64, 3), (72, .ireturn, 1), (73, .aload_n 0, 1), (74, .aload_n 0, 1), (75, .getfield 41, 3), (78, .invokevirtual 141, 3), (81, .iconst 1, 1), (82, .ireturn, 1), (83, .aload_n 0, 1), (84, .iconst (-1), 1), (85, .invokevirtual 141, 3), (88, .iconst 1, 1), (89, .ireturn, 1), (90, .aload_n 0, 1), (91, .bipush (-2), 2), (93, .invokevirtual 141, 3), (96, .iconst 1, 1), (97, .ireturn, 1), (98, .aload_n 0, 1), (99, .bipush (-3), 2), (101, .invokevirtual 141, 3), (104, .iconst 1, 1), (105, .ireturn, 1), (106, .aload_n 0, 1), (107, .bipush (-2), 2), (109, .invokevirtual 64, 3), (112, .ireturn, 1)]
theorem tX6_readFactor : Tb mX6_readFactor.2.1 lX6_readFactor := Tb.of (by decide +kernel)
def lX6_emit : List (Nat × Instr × Nat) := [(0, .aload_n 0, 1), (1, .getfield 52, 3), (4, .aload_n 0, 1), (5, .getfield 48, 3), (8, .arraylength, 1), (9, .if_icmp .ge 23, 3), (12, .aload_n 0, 1), (13, .getfield 48, 3), (16, .aload_n 0, 1), (17, .getfield 52, 3), (20, .iload_n 1, 1), (21, .iastore, 1), (22, .aload_n 0, 1), (23, .dup, 1), (24, .getfield 52, 3), (27, .iconst 1, 1), (28, .iadd, 1), (29, .putfield 52, 3), (32, .return_, 1)]
theorem tX6_emit : Tb mX6_emit.2.1 lX6_emit := Tb.of (by decide +kernel)
def lX6_postpone : List (Nat × Instr × Nat) := [(0, .aload_n 0, 1), (1, .getfield 58, 3), (4, .aload_n 0, 1), (5, .getfield 55, 3), (8, .arraylength, 1), (9, .if_icmp .ge 23, 3), (12, .aload_n 0, 1), (13, .getfield 55, 3), (16, .aload_n 0, 1), (17, .getfield 58, 3), (20, .iload_n 1, 1), (21, .iastore, 1), (22, .aload_n 0, 1), (23, .dup, 1), (24, .getfield 58, 3), (27, .iconst 1, 1), (28, .iadd, 1), (29, .putfield 58, 3), (32, .return_, 1)]
theorem tX6_postpone : Tb mX6_postpone.2.1 lX6_postpone := Tb.of (by decide +kernel)
def lX6_release : List (Nat × Instr × Nat) := [(0, .aload_n 0, 1), (1, .getfield 58, 3), (4, .ifCond .le 50, 3), (7, .aload_n 0, 1), (8, .getfield 55, 3), (11, .aload_n 0, 1), (12, .getfield 58, 3), (15, .iconst 1, 1), (16, .isub, 1), (17, .iaload, 1), (18, .invokestatic 125, 3), (21, .iload_n 1, 1), (22, .if_icmp .lt 32, 3), (25, .aload_n 0, 1), (26, .dup, 1), (27, .getfield 58, 3), (30, .iconst 1, 1), (31, .isub, 1), (32, .putfield 58, 3), (35, .aload_n 0, 1), (36, .aload_n 0, 1), (37, .getfield 55, 3), (40, .aload_n 0, 1), (41, .getfield 58, 3), (44, .iaload, 1), (45, .invokestatic 146, 3), (48, .invokevirtual 141, 3), (51, .goto (-51), 3), (54, .return_, 1)]
theorem tX6_release : Tb mX6_release.2.1 lX6_release := Tb.of (by decide +kernel)
def lX6_strength : List (Nat × Instr × Nat) := [(0, .iload_n 0, 1), (1, .bipush 42, 2), (3, .if_icmp .eq 9, 3), (6, .iload_n 0, 1), (7, .bipush 47, 2), (9, .if_icmp .ne 5, 3), (12, .iconst 2, 1), (13, .ireturn, 1), (14, .iload_n 0, 1), (15, .bipush 43, 2), (17, .if_icmp .eq 9, 3), (20, .iload_n 0, 1), (21, .bipush 45, 2), (23, .if_icmp .ne 7, 3), (26, .iconst 1, 1), (27, .goto 4, 3), (30, .iconst 0, 1), (31, .ireturn, 1)]
theorem tX6_strength : Tb mX6_strength.2.1 lX6_strength := Tb.of (by decide +kernel)
def lX6_operation : List (Nat × Instr × Nat) := [(0, .iload_n 0, 1), (1, .tableswitch 40 42 45 #[37, 31, 40, 34], 31), (32, .bipush (-4), 2), (34, .ireturn, 1), (35, .bipush (-5), 2), (37, .ireturn, 1), (38, .bipush (-6), 2), (40, .ireturn, 1), (41, .bipush (-7), 2), (43, .ireturn, 1)]
theorem tX6_operation : Tb mX6_operation.2.1 lX6_operation := Tb.of (by decide +kernel)
def lX6_readVertex : List (Nat × Instr × Nat) := [(0, .aload_n 0, 1), (1, .iconst 0, 1), (2, .aload_n 0, 1), (3, .getfield 21, 3), (6, .getfield 149, 3), (9, .iconst 1, 1), (10, .isub, 1), (11, .invokevirtual 68, 3), (14, .ireturn, 1)]
theorem tX6_readVertex : Tb mX6_readVertex.2.1 lX6_readVertex := Tb.of (by decide +kernel)
def lX6_readNumber : List (Nat × Instr × Nat) := [(0, .aload_n 0, 1), (1, .invokevirtual 61, 3), (4, .aload_n 0, 1), (5, .getfield 35, 3), (8, .sipush 257, 3), (11, .if_icmp .eq 10, 3), (14, .aload_n 0, 1), (15, .bipush (-2), 2), (17, .invokevirtual 64, 3), (20, .ireturn, 1), (21, .aload_n 0, 1), (22, .getfield 41, 3), (25, .iload_n 1, 1), (26, .if_icmp .lt 11, 3), (29, .aload_n 0, 1), (30, .getfield 41, 3), (33, .iload_n 2, 1), (34, .if_icmp .le 10, 3), (37, .aload_n 0, 1), (38, .bipush (-3), 2), (40, .invokevirtual 64, 3), (43, .ireturn, 1), (44, .iconst 1, 1), (45, .ireturn, 1)]
theorem tX6_readNumber : Tb mX6_readNumber.2.1 lX6_readNumber := Tb.of (by decide +kernel)
def lX6_readSemicolon : List (Nat × Instr × Nat) := [(0, .aload_n 0, 1), (1, .invokevirtual 61, 3), (4, .aload_n 0, 1), (5, .getfield 35, 3), (8, .bipush 59, 2), (10, .if_icmp .eq 12, 3), (13, .aload_n 0, 1), (14, .bipush (-2), 2), (16, .invokevirtual 64, 3), (19, .ifCond .eq 7, 3), (22, .iconst 1, 1), (23, .goto 4, 3), (26, .iconst 0, 1), (27, .ireturn, 1)]
theorem tX6_readSemicolon : Tb mX6_readSemicolon.2.1 lX6_readSemicolon := Tb.of (by decide +kernel)
def lX6_takeToken : List (Nat × Instr × Nat) := [(0, .aload_n 0, 1), (1, .aload_n 0, 1), (2, .getfield 12, 3), (5, .getfield 152, 3), (8, .aload_n 0, 1), (9, .getfield 32, 3), (12, .iaload, 1), (13, .putfield 35, 3), (16, .aload_n 0, 1), (17, .aload_n 0, 1), (18, .getfield 12, 3), (21, .getfield 155, 3), (24, .aload_n 0, 1), (25, .getfield 32, 3), (28, .iaload, 1), (29, .putfield 38, 3), (32, .aload_n 0, 1), (33, .aload_n 0, 1), (34, .getfield 12, 3), (37, .getfield 158, 3), (40, .aload_n 0, 1), (41, .getfield 32, 3), (44, .iaload, 1), (45, .putfield 41, 3), (48, .aload_n 0, 1), (49, .getfield 32, 3), (52, .aload_n 0, 1), (53, .getfield 12, 3), (56, .getfield 80, 3), (59, .iconst 1, 1), (60, .isub, 1), (61, .if_icmp .ge 13, 3), (64, .aload_n 0, 1), (65, .dup, 1), (66, .getfield 32, 3), (69, .iconst 1, 1), (70, .iadd, 1), (71, .putfield 32, 3), (74, .return_, 1)]
theorem tX6_takeToken : Tb mX6_takeToken.2.1 lX6_takeToken := Tb.of (by decide +kernel)
def lX6_fail : List (Nat × Instr × Nat) := [(0, .aload_n 0, 1), (1, .iload_n 1, 1), (2, .putfield 25, 3), (5, .aload_n 0, 1), (6, .aload_n 0, 1), (7, .getfield 38, 3), (10, .putfield 29, 3), (13, .iconst 0, 1), (14, .ireturn, 1)]
theorem tX6_fail : Tb mX6_fail.2.1 lX6_fail := Tb.of (by decide +kernel)
def lX7_init : List (Nat × Instr × Nat) := [(0, .aload_n 0, 1), (1, .invokespecial 3, 3), (4, .aload_n 0, 1), (5, .bipush 36, 2), (7, .newarray .float, 2), (9, .putfield 9, 3), (12, .aload_n 0, 1), (13, .bipush 6, 2), (15, .newarray .float, 2), (17, .putfield 15, 3), (20, .aload_n 0, 1), (21, .bipush 6, 2), (23, .newarray .float, 2), (25, .putfield 18, 3), (28, .aload_n 0, 1), (29, .new 21, 3), (32, .dup, 1), (33, .invokespecial 23, 3), (36, .putfield 24, 3), (39, .return_, 1)]
theorem tX7_init : Tb mX7_init.2.1 lX7_init := Tb.of (by decide +kernel)
def lX7_chanceAfter : List (Nat × Instr × Nat) := [(0, .aload_n 0, 1), (1, .aload_n 1, 1), (2, .invokevirtual 28, 3), (5, .iconst 0, 1), (6, .istore 5, 2), (8, .iload 5, 2), (10, .aload_n 1, 1), (11, .getfield 32, 3), (14, .if_icmp .ge 27, 3), (17, .aload_n 0, 1), (18, .getfield 15, 3), (21, .iload 5, 2), (23, .iload 5, 2), (25, .iload_n 2, 1), (26, .if_icmp .ne 7, 3), (29, .fconst 1, 1), (30, .goto 4, 3), (33, .fconst 0, 1), (34, .fastore, 1), (35, .iinc 5 1, 3), (38, .goto (-30), 3), (41, .iconst 0, 1), (42, .istore 5, 2), (44, .iload 5, 2), (46, .iload 4, 2), (48, .if_icmp .ge 56, 3), (51, .iconst 0, 1), (52, .istore 6, 2), (54, .iload 6, 2), (56, .aload_n 1, 1), (57, .getfield 32, 3), (60, .if_icmp .ge 23, 3), (63, .aload_n 0, 1), (64, .getfield 18, 3), (67, .iload 6, 2), (69, .aload_n 0, 1), (70, .aload_n 1, 1), (71, .iload 6, 2), (73, .invokevirtual 38, 3), (76, .fastore, 1), (77, .iinc 6 1, 3), (80, .goto (-26), 3), (83, .aload_n 0, 1), (84, .getfield 18, 3), (87, .iconst 0, 1), (88, .aload_n 0, 1), (89, .getfield 15, 3), (92, .iconst 0, 1), (93, .bipush 6, 2), (95, .invokestatic 42, 3), (98, .iinc 5 1, 3), (101, .goto (-57), 3), (104, .aload_n 0, 1), (105, .getfield 15, 3), (108, .iload_n 3, 1), (109, .faload, 1), (110, .freturn, 1)]
theorem tX7_chanceAfter : Tb mX7_chanceAfter.2.1 lX7_chanceAfter := Tb.of (by decide +kernel)
def lX7_fillChances : List (Nat × Instr × Nat) := [(0, .iconst 0, 1), (1, .istore_n 2, 1), (2, .iload_n 2, 1), (3, .aload_n 1, 1), (4, .getfield 32, 3), (7, .if_icmp .ge 63, 3), (10, .iconst 0, 1), (11, .istore_n 3, 1), (12, .iload_n 3, 1), (13, .aload_n 1, 1), (14, .getfield 32, 3), (17, .if_icmp .ge 47, 3), (20, .aload_n 1, 1), (21, .iload_n 2, 1), (22, .iload_n 3, 1), (23, .aload_n 0, 1), (24, .getfield 24, 3), (27, .invokevirtual 48, 3), (30, .aload_n 0, 1), (31, .getfield 9, 3), (34, .iload_n 2, 1), (35, .bipush 6, 2), (37, .imul, 1), (38, .iload_n 3, 1), (39, .iadd, 1), (40, .aload_n 0, 1), (41, .getfield 24, 3), (44, .getfield 52, 3), (47, .l2f, 1), (48, .aload_n 0, 1), (49, .getfield 24, 3), (52, .getfield 56, 3), (55, .l2f, 1), (56, .fdiv, 1), (57, .fastore, 1), (58, .iinc 3 1, 3), (61, .goto (-49), 3), (64, .iinc 2 1, 3), (67, .goto (-65), 3), (70, .return_, 1)]
theorem tX7_fillChances : Tb mX7_fillChances.2.1 lX7_fillChances := Tb.of (by decide +kernel)
def lX7_chanceAt : List (Nat × Instr × Nat) := [(0, .fconst 0, 1), (1, .fstore_n 3, 1), (2, .iconst 0, 1), (3, .istore 4, 2), (5, .iload 4, 2), (7, .aload_n 1, 1), (8, .getfield 32, 3), (11, .if_icmp .ge 43, 3), (14, .aload_n 0, 1), (15, .getfield 9, 3), (18, .iload 4, 2), (20, .bipush 6, 2), (22, .imul, 1), (23, .iload_n 2, 1), (24, .iadd, 1), (25, .faload, 1), (26, .fstore 5, 2), (28, .fload 5, 2), (30, .fconst 0, 1), (31, .fcmp .l, 1), (32, .ifCond .le 16, 3), (35, .fload_n 3, 1), (36, .aload_n 0, 1), (37, .getfield 15, 3), (40, .iload 4, 2), (42, .faload, 1), (43, .fload 5, 2), (45, .fmul, 1), (46, .fadd, 1), (47, .fstore_n 3, 1), (48, .iinc 4 1, 3), (51, .goto (-46), 3), (54, .fload_n 3, 1), (55, .freturn, 1)]
theorem tX7_chanceAt : Tb mX7_chanceAt.2.1 lX7_chanceAt := Tb.of (by decide +kernel)
def lX8_init : List (Nat × Instr × Nat) := [(0, .aload_n 0, 1), (1, .invokespecial 1, 3), (4, .aload_n 0, 1), (5, .lconst 0, 1), (6, .putfield 7, 3), (9, .aload_n 0, 1), (10, .iconst 0, 1), (11, .putfield 13, 3), (14, .aload_n 0, 1), (15, .iconst 0, 1), (16, .putfield 17, 3), (19, .aload_n 0, 1), (20, .iconst 0, 1), (21, .putfield 20, 3), (24, .aload_n 0, 1), (25, .iconst (-1), 1), (26, .putfield 23, 3), (29, .return_, 1)]
theorem tX8_init : Tb mX8_init.2.1 lX8_init := Tb.of (by decide +kernel)
def lX8_go : List (Nat × Instr × Nat) := [(0, .aload_n 0, 1), (1, .iload 5, 2), (3, .i2l, 1), (4, .putfield 7, 3), (7, .aload_n 0, 1), (8, .iload_n 3, 1), (9, .putfield 13, 3), (12, .aload_n 0, 1), (13, .iconst 1, 1), (14, .iload_n 3, 1), (15, .ishl, 1), (16, .putfield 17, 3), (19, .aload_n 0, 1), (20, .iconst 0, 1), (21, .putfield 20, 3), (24, .aload_n 0, 1), (25, .aload_n 1, 1), (26, .iload_n 3, 1), (27, .invokevirtual 26, 3), (30, .ifCond .eq 7, 3), (33, .iconst 0, 1), (34, .goto 4, 3), (37, .iconst (-1), 1), (38, .putfield 23, 3), (41, .iconst 1, 1), (42, .istore 6, 2), (44, .iload 6, 2), (46, .iload 4, 2), (48, .if_icmp .gt 76, 3), (51, .aload_n 0, 1), (52, .aload_n 1, 1), (53, .invokevirtual 32, 3), (56, .istore 7, 2), (58, .aload_n 0, 1), (59, .dup, 1), (60, .getfield 20, 3), (63, .aload_n 2, 1), (64, .aload_n 0, 1), (65, .getfield 13, 3), (68, .iload 7, 2), (70, .invokevirtual 36, 3), (73, .iadd, 1), (74, .putfield 20, 3), (77, .aload_n 0, 1), (78, .iload 7, 2), (80, .putfield 13, 3), (83, .aload_n 0, 1), (84, .dup, 1), (85, .getfield 17, 3), (88, .iconst 1, 1), (89, .iload 7, 2), (91, .ishl, 1), (92, .ior, 1), (93, .putfield 17, 3), (96, .aload_n 0, 1), (97, .getfield 23, 3), (100, .ifCond .ge 18, 3), (103, .aload_n 1, 1), (104, .iload 7, 2), (106, .invokevirtual 26, 3), (109, .ifCond .eq 9, 3), (112, .aload_n 0, 1), (113, .iload 6, 2), (115, .putfield 23, 3), (118, .iinc 6 1, 3), (121, .goto (-77), 3), (124, .return_, 1)]
theorem tX8_go : Tb mX8_go.2.1 lX8_go := Tb.of (by decide +kernel)
def lX8_told : List (Nat × Instr × Nat) := [(0, .iload_n 1, 1), (1, .tableswitch 42 0 2 #[27, 32, 37], 27), (28, .aload_n 0, 1), (29, .getfield 13, 3), (32, .ireturn, 1), (33, .aload_n 0, 1), (34, .getfield 17, 3), (37, .ireturn, 1), (38, .aload_n 0, 1), (39, .getfield 20, 3), (42, .ireturn, 1), (43, .aload_n 0, 1), (44, .getfield 23, 3), (47, .ireturn, 1)]
theorem tX8_told : Tb mX8_told.2.1 lX8_told := Tb.of (by decide +kernel)
def lX8_drawStep : List (Nat × Instr × Nat) := [(0, .aload_n 1, 1), (1, .aload_n 0, 1), (2, .getfield 13, 3), (5, .invokevirtual 42, 3), (8, .istore_n 2, 1), (9, .iload_n 2, 1), (10, .ifCond .gt 8, 3), (13, .aload_n 0, 1), (14, .getfield 13, 3), (17, .ireturn, 1), (18, .aload_n 0, 1), (19, .aload_n 0, 1), (20, .getfield 7, 3), (23, .ldc2_w 46, 3), (26, .lmul, 1), (27, .ldc2_w 48, 3), (30, .ladd, 1), (31, .ldc2_w 50, 3), (34, .lrem, 1), (35, .putfield 7, 3), (38, .aload_n 0, 1), (39, .getfield 7, 3), (42, .ldc2_w 52, 3), (45, .ldiv, 1), (46, .iload_n 2, 1), (47, .i2l, 1), (48, .lrem, 1), (49, .lstore_n 3, 1), (50, .lconst 0, 1), (51, .lstore 5, 2), (53, .iconst 0, 1), (54, .istore 7, 2), (56, .iload 7, 2), (58, .aload_n 1, 1), (59, .getfield 54, 3), (62, .if_icmp .ge 35, 3), (65, .lload 5, 2), (67, .aload_n 1, 1), (68, .aload_n 0, 1), (69, .getfield 13, 3), (72, .iload 7, 2), (74, .invokevirtual 57, 3), (77, .i2l, 1), (78, .ladd, 1), (79, .lstore 5, 2), (81, .lload 5, 2), (83, .lload_n 3, 1), (84, .lcmp, 1), (85, .ifCond .le 6, 3), (88, .iload 7, 2), (90, .ireturn, 1), (91, .iinc 7 1, 3), (94, .goto (-38), 3), (97, .aload_n 0, 1), (98, .getfield 13, 3), (101, .ireturn, 1)]
theorem tX8_drawStep : Tb mX8_drawStep.2.1 lX8_drawStep := Tb.of (by decide +kernel)
def lX9_init : List (Nat × Instr × Nat) := [(0, .aload_n 0, 1), (1, .invokespecial 3, 3), (4, .aload_n 0, 1), (5, .sipush 600, 3), (8, .newarray .byte, 2), (10, .putfield 9, 3), (13, .aload_n 0, 1), (14, .iconst 0, 1), (15, .putfield 15, 3), (18, .aload_n 0, 1), (19, .sipush 601, 3), (22, .newarray .int, 2), (24, .putfield 19, 3), (27, .aload_n 0, 1), (28, .sipush 601, 3), (31, .newarray .int, 2), (33, .putfield 23, 3), (36, .aload_n 0, 1), (37, .sipush 601, 3), (40, .newarray .int, 2), (42, .putfield 26, 3), (45, .aload_n 0, 1), (46, .iconst 0, 1), (47, .putfield 29, 3), (50, .return_, 1)]
theorem tX9_init : Tb mX9_init.2.1 lX9_init := Tb.of (by decide +kernel)
def lX9_hold : List (Nat × Instr × Nat) := [(0, .bipush 24, 2), (2, .istore_n 2, 1), (3, .iload_n 2, 1), (4, .ifCond .lt 42, 3), (7, .aload_n 0, 1), (8, .getfield 15, 3), (11, .sipush 600, 3), (14, .if_icmp .ge 26, 3), (17, .aload_n 0, 1), (18, .getfield 9, 3), (21, .aload_n 0, 1), (22, .getfield 15, 3), (25, .iload_n 1, 1), (26, .iload_n 2, 1), (27, .ishr, 1), (28, .i2b, 1), (29, .bastore, 1), (30, .aload_n 0, 1), (31, .dup, 1), (32, .getfield 15, 3), (35, .iconst 1, 1), (36, .iadd, 1), (37, .putfield 15, 3), (40, .iinc 2 (-8), 3), (43, .goto (-40), 3), (46, .return_, 1)]
theorem tX9_hold : Tb mX9_hold.2.1 lX9_hold := Tb.of (by decide +kernel)
def lX9_scan : List (Nat × Instr × Nat) := [(0, .iload_n 1, 1), (1, .aload_n 0, 1), (2, .getfield 15, 3), (5, .invokestatic 32, 3), (8, .istore_n 2, 1), (9, .iconst 0, 1), (10, .istore_n 3, 1), (11, .aload_n 0, 1), (12, .iconst 0, 1), (13, .putfield 29, 3), (16, .iconst 0, 1), (17, .istore 4, 2), (19, .iload 4, 2), (21, .sipush 600, 3), (24, .if_icmp .ge 38, 3), (27, .iload_n 3, 1), (28, .iload_n 2, 1), (29, .if_icmp .ge 33, 3), (32, .aload_n 0, 1), (33, .getfield 9, 3), (36, .iload_n 3, 1), (37, .baload, 1), (38, .bipush 32, 2), (40, .if_icmp .ne 9, 3), (43, .iinc 3 1, 3), (46, .goto 10, 3), (49, .aload_n 0, 1), (50, .iload_n 3, 1), (51, .iload_n 2, 1), (52, .invokevirtual 38, 3), (55, .istore_n 3, 1), (56, .iinc 4 1, 3), (59, .goto (-40), 3), (62, .aload_n 0, 1), (63, .sipush 256, 3), (66, .iload_n 2, 1), (67, .iconst 0, 1), (68, .invokevirtual 41, 3), (71, .return_, 1)]
theorem tX9_scan : Tb mX9_scan.2.1 lX9_scan := Tb.of (by decide +kernel)
def lX9_scanToken : List (Nat × Instr × Nat) := [(0, .aload_n 0, 1), (1, .getfield 9, 3), (4, .iload_n 1, 1), (5, .baload, 1), (6, .invokestatic 45, 3), (9, .ifCond .eq 10, 3), (12, .aload_n 0, 1), (13, .iload_n 1, 1), (14, .iload_n 2, 1), (15, .invokevirtual 49, 3), (18, .ireturn, 1), (19, .aload_n 0, 1), (20, .getfield 9, 3), (23, .iload_n 1, 1), (24, .baload, 1), (25, .invokestatic 52, 3), (28, .ifCond .eq 10, 3), (31, .aload_n 0, 1), (32, .iload_n 1, 1), (33, .iload_n 2, 1), (34, .invokevirtual 55, 3), (37, .ireturn, 1), (38, .aload_n 0, 1), (39, .aload_n 0, 1), (40, .getfield 9, 3), (43, .iload_n 1, 1), (44, .baload, 1), (45, .iload_n 1, 1), (46, .iconst 0, 1), (47, .invokevirtual 41, 3), (50, .iload_n 1, 1), (51, .iconst 1, 1), (52, .iadd, 1), (53, .ireturn, 1)]
theorem tX9_scanToken : Tb mX9_scanToken.2.1 lX9_scanToken := Tb.of (by decide +kernel)
def lX9_scanNumber : List (Nat × Instr × Nat) := [(0, .iconst 0, 1), (1, .istore_n 3, 1), (2, .iload_n 1, 1), (3, .istore 4, 2), (5, .iload 4, 2), (7, .iload_n 2, 1), (8, .if_icmp .ge 44, 3), (11, .aload_n 0, 1), (12, .getfield 9, 3), (15, .iload 4, 2), (17, .baload, 1), (18, .invokestatic 45, 3), (21, .ifCond .eq 31, 3), (24, .sipush 10000, 3), (27, .iload_n 3, 1), (28, .bipush 10, 2), (30, .imul, 1), (31, .aload_n 0, 1), (32, .getfield 9, 3), (35, .iload 4, 2), (37, .baload, 1), (38, .iadd, 1), (39, .bipush 48, 2), (41, .isub, 1), (42, .invokestatic 32, 3), (45, .istore_n 3, 1), (46, .iinc 4 1, 3), (49, .goto (-44), 3), (52, .aload_n 0, 1), (53, .sipush 257, 3), (56, .iload_n 1, 1), (57, .iload_n 3, 1), (58, .invokevirtual 41, 3), (61, .iload 4, 2), (63, .ireturn, 1)]
theorem tX9_scanNumber : Tb mX9_scanNumber.2.1 lX9_scanNumber := Tb.of (by decide +kernel)
def lX9_scanWord : List (Nat × Instr × Nat) := [(0, .iload_n 1, 1), (1, .istore_n 3, 1), (2, .iload_n 3, 1), (3, .iload_n 2, 1), (4, .if_icmp .ge 21, 3), (7, .aload_n 0, 1), (8, .getfield 9, 3), (11, .iload_n 3, 1), (12, .baload, 1), (13, .invokestatic 52, 3), (16, .ifCond .eq 9, 3), (19, .iinc 3 1, 3), (22, .goto (-20), 3), (25, .aload_n 0, 1), (26, .aload_n 0, 1), (27, .iload_n 1, 1), (28, .iload_n 3, 1), (29, .invokevirtual 58, 3), (32, .iload_n 1, 1), (33, .iconst 0, 1), (34, .invokevirtual 41, 3), (37, .iload_n 3, 1), (38, .ireturn, 1)]
theorem tX9_scanWord : Tb mX9_scanWord.2.1 lX9_scanWord := Tb.of (by decide +kernel)
def lX9_kindOfWord : List (Nat × Instr × Nat) := [(0, .aload_n 0, 1), (1, .ldc 61, 2), (3, .iload_n 1, 1), (4, .iload_n 2, 1), (5, .invokevirtual 63, 3), (8, .ifCond .eq 7, 3), (11, .sipush 258, 3), (14, .ireturn, 1), (15, .aload_n 0, 1), (16, .ldc 67, 2), (18, .iload_n 1, 1), (19, .iload_n 2, 1), (20, .invokevirtual 63, 3), (23, .ifCond .eq 7, 3), (26, .sipush 259, 3), (29, .ireturn, 1), (30, .aload_n 0, 1), (31, .ldc 69, 2), (33, .iload_n 1, 1), (34, .iload_n 2, 1), (35, .invokevirtual 63, 3), (38, .ifCond .eq 7, 3), (41, .sipush 260, 3), (44, .ireturn, 1), (45, .aload_n 0, 1), (46, .ldc 71, 2), (48, .iload_n 1, 1), (49, .iload_n 2, 1), (50, .invokevirtual 63, 3), (53, .ifCond .eq 7, 3), (56, .sipush 261, 3), (59, .ireturn, 1), (60, .aload_n 0, 1), (61, .ldc 73, 2), (63, .iload_n 1, 1), (64, .iload_n 2, 1), (65, .invokevirtual 63, 3), (68, .ifCond .eq 7, 3), (71, .sipush 262, 3), (74, .ireturn, 1), (75, .aload_n 0, 1), (76, .ldc 75, 2), (78, .iload_n 1, 1), (79, .iload_n 2, 1), (80, .invokevirtual 63, 3), (83, .ifCond .eq 7, 3), (86, .sipush 263, 3), (89, .ireturn, 1), (90, .aload_n 0, 1), (91, .ldc 77, 2), (93, .iload_n 1, 1), (94, .iload_n 2, 1), (95, .invokevirtual 63, 3), (98, .ifCond .eq 7, 3), (101, .sipush 264, 3), (104, .ireturn, 1), (105, .aload_n 0, 1), (106, .ldc 79, 2), (108, .iload_n 1, 1), (109, .iload_n 2, 1), (110, .invokevirtual 63, 3), (113, .ifCond .eq 9, 3), (116, .sipush 265, 3), (119, .goto 6, 3), (122, .sipush 266, 3), (125, .ireturn, 1)]
theorem tX9_kindOfWord : Tb mX9_kindOfWord.2.1 lX9_kindOfWord := Tb.of (by decide +kernel)
def lX9_isWord : List (Nat × Instr × Nat) := [(0, .iload_n 3, 1), (1, .iload_n 2, 1), (2, .isub, 1), (3, .aload_n 1, 1), (4, .invokevirtual 81, 3), (7, .if_icmp .eq 5, 3), (10, .iconst 0, 1), (11, .ireturn, 1), (12, .iconst 0, 1), (13, .istore 4, 2), (15, .iload 4, 2), (17, .aload_n 1, 1), (18, .invokevirtual 81, 3), (21, .if_icmp .ge 29, 3), (24, .aload_n 0, 1), (25, .getfield 9, 3), (28, .iload_n 2, 1), (29, .iload 4, 2), (31, .iadd, 1), (32, .baload, 1), (33, .aload_n 1, 1), (34, .iload 4, 2), (36, .invokevirtual 87, 3), (39, .if_icmp .eq 5, 3), (42, .iconst 0, 1), (43, .ireturn, 1), (44, .iinc 4 1, 3), (47, .goto (-32), 3), (50, .iconst 1, 1), (51, .ireturn, 1)]
theorem tX9_isWord : Tb mX9_isWord.2.1 lX9_isWord := Tb.of (by decide +kernel)
def lX9_put : List (Nat × Instr × Nat) := [(0, .aload_n 0, 1), (1, .getfield 29, 3), (4, .aload_n 0, 1), (5, .getfield 19, 3), (8, .arraylength, 1), (9, .if_icmp .ge 43, 3), (12, .aload_n 0, 1), (13, .getfield 19, 3), (16, .aload_n 0, 1), (17, .getfield 29, 3), (20, .iload_n 1, 1), (21, .iastore, 1), (22, .aload_n 0, 1), (23, .getfield 23, 3), (26, .aload_n 0, 1), (27, .getfield 29, 3), (30, .iload_n 2, 1), (31, .iastore, 1), (32, .aload_n 0, 1), (33, .getfield 26, 3), (36, .aload_n 0, 1), (37, .getfield 29, 3), (40, .iload_n 3, 1), (41, .iastore, 1), (42, .aload_n 0, 1), (43, .dup, 1), (44, .getfield 29, 3), (47, .iconst 1, 1), (48, .iadd, 1), (49, .putfield 29, 3), (52, .return_, 1)]
theorem tX9_put : Tb mX9_put.2.1 lX9_put := Tb.of (by decide +kernel)
def lX9_isDigit : List (Nat × Instr × Nat) := [(0, .iload_n 0, 1), (1, .bipush 48, 2), (3, .if_icmp .lt 13, 3), (6, .iload_n 0, 1), (7, .bipush 57, 2), (9, .if_icmp .gt 7, 3), (12, .iconst 1, 1), (13, .goto 4, 3), (16, .iconst 0, 1), (17, .ireturn, 1)]
theorem tX9_isDigit : Tb mX9_isDigit.2.1 lX9_isDigit := Tb.of (by decide +kernel)
def lX9_isLetter : List (Nat × Instr × Nat) := [(0, .iload_n 0, 1), (1, .bipush 97, 2), (3, .if_icmp .lt 13, 3), (6, .iload_n 0, 1), (7, .bipush 122, 2), (9, .if_icmp .gt 7, 3), (12, .iconst 1, 1), (13, .goto 4, 3), (16, .iconst 0, 1), (17, .ireturn, 1)]
theorem tX9_isLetter : Tb mX9_isLetter.2.1 lX9_isLetter := Tb.of (by decide +kernel)
def lX10_init : List (Nat × Instr × Nat) := [(0, .aload_n 0, 1), (1, .invokespecial 1, 3), (4, .aload_n 0, 1), (5, .iconst (-1), 1), (6, .putfield 7, 3), (9, .aload_n 0, 1), (10, .new 13, 3), (13, .dup, 1), (14, .invokespecial 15, 3), (17, .putfield 16, 3), (20, .aload_n 0, 1), (21, .new 20, 3), (24, .dup, 1), (25, .invokespecial 22, 3), (28, .putfield 23, 3), (31, .aload_n 0, 1), (32, .new 27, 3), (35, .dup, 1), (36, .invokespecial 29, 3), (39, .putfield 30, 3), (42, .aload_n 0, 1), (43, .new 34, 3), (46, .dup, 1), (47, .invokespecial 36, 3), (50, .putfield 37, 3), (53, .aload_n 0, 1), (54, .new 41, 3), (57, .dup, 1), (58, .invokespecial 43, 3), (61, .putfield 44, 3), (64, .aload_n 0, 1), (65, .new 48, 3), (68, .dup, 1), (69, .invokespecial 50, 3), (72, .putfield 51, 3), (75, .aload_n 0, 1), (76, .new 55, 3), (79, .dup, 1), (80, .invokespecial 57, 3), (83, .putfield 58, 3), (86, .aload_n 0, 1), (87, .new 55, 3), (90, .dup, 1), (91, .invokespecial 57, 3), (94, .putfield 62, 3), (97, .aload_n 0, 1), (98, .bipush 6, 2), (100, .newarray .long, 2), (102, .putfield 65, 3), (105, .aload_n 0, 1), (106, .new 69, 3), (109, .dup, 1), (110, .invokespecial 71, 3), (113, .putfield 72, 3), (116, .aload_n 0, 1), (117, .new 76, 3), (120, .dup, 1), (121, .invokespecial 78, 3), (124, .putfield 79, 3), (127, .return_, 1)]
theorem tX10_init : Tb mX10_init.2.1 lX10_init := Tb.of (by decide +kernel)
def lX10_append : List (Nat × Instr × Nat) := [(0, .aload_n 0, 1), (1, .getfield 30, 3), (4, .getfield 83, 3), (7, .astore 6, 2), (9, .aload 6, 2), (11, .getfield 87, 3), (14, .sipush 580, 3), (17, .if_icmp .le 5, 3), (20, .iconst (-1), 1), (21, .ireturn, 1), (22, .aload 6, 2), (24, .iload_n 1, 1), (25, .invokevirtual 92, 3), (28, .aload 6, 2), (30, .iload_n 2, 1), (31, .invokevirtual 92, 3), (34, .aload 6, 2), (36, .iload_n 3, 1), (37, .invokevirtual 92, 3), (40, .aload 6, 2), (42, .iload 4, 2), (44, .invokevirtual 92, 3), (47, .aload 6, 2), (49, .iload 5, 2), (51, .invokevirtual 92, 3), (54, .aload 6, 2), (56, .getfield 87, 3), (59, .ireturn, 1)]
theorem tX10_append : Tb mX10_append.2.1 lX10_append := Tb.of (by decide +kernel)
def lX10_load : List (Nat × Instr × Nat) := [(0, .aload_n 0, 1), (1, .getfield 30, 3), (4, .getfield 83, 3), (7, .astore_n 2, 1), (8, .iload_n 1, 1), (9, .ifCond .lt 11, 3), (12, .iload_n 1, 1), (13, .aload_n 2, 1), (14, .getfield 87, 3), (17, .if_icmp .le 13, 3), (20, .new 96, 3), (23, .dup, 1), (24, .ldc 98, 2), (26, .invokespecial 100, 3), (29, .athrow, 1), (30, .aload_n 2, 1), (31, .iload_n 1, 1), (32, .invokevirtual 103, 3), (35, .aload_n 2, 1), (36, .iconst 0, 1), (37, .putfield 87, 3), (40, .aload_n 0, 1), (41, .getfield 30, 3), (44, .invokevirtual 106, 3), (47, .ifCond .ne 22, 3), (50, .aload_n 0, 1), (51, .aload_n 0, 1), (52, .getfield 30, 3), (55, .getfield 110, 3), (58, .putfield 7, 3), (61, .aload_n 0, 1), (62, .getfield 30, 3), (65, .getfield 111, 3), (68, .ireturn, 1), (69, .aload_n 0, 1), (70, .iconst (-1), 1), (71, .putfield 7, 3), (74, .aload_n 0, 1), (75, .getfield 23, 3), (78, .aload_n 0, 1), (79, .getfield 16, 3), (82, .invokevirtual 114, 3), (85, .aload_n 0, 1), (86, .getfield 16, 3), (89, .aload_n 0, 1), (90, .getfield 30, 3), (93, .getfield 118, 3), (96, .invokevirtual 121, 3), (99, .aload_n 0, 1), (100, .getfield 16, 3), (103, .getfield 124, 3), (106, .ireturn, 1)]
theorem tX10_load : Tb mX10_load.2.1 lX10_load := Tb.of (by decide +kernel)
def lX10_errorOffset : List (Nat × Instr × Nat) := [(0, .aload_n 0, 1), (1, .getfield 7, 3), (4, .ireturn, 1)]
theorem tX10_errorOffset : Tb mX10_errorOffset.2.1 lX10_errorOffset := Tb.of (by decide +kernel)
def lX10_size : List (Nat × Instr × Nat) := [(0, .aload_n 0, 1), (1, .getfield 16, 3), (4, .getfield 127, 3), (7, .ireturn, 1)]
theorem tX10_size : Tb mX10_size.2.1 lX10_size := Tb.of (by decide +kernel)
def lX10_edgeCount : List (Nat × Instr × Nat) := [(0, .aload_n 0, 1), (1, .getfield 16, 3), (4, .getfield 124, 3), (7, .ireturn, 1)]
theorem tX10_edgeCount : Tb mX10_edgeCount.2.1 lX10_edgeCount := Tb.of (by decide +kernel)
def lX10_edge : List (Nat × Instr × Nat) := [(0, .aload_n 0, 1), (1, .iload_n 1, 1), (2, .invokevirtual 130, 3), (5, .iload_n 2, 1), (6, .ifCond .lt 8, 3), (9, .iload_n 2, 1), (10, .iconst 4, 1), (11, .if_icmp .le 13, 3), (14, .new 96, 3), (17, .dup, 1), (18, .ldc 133, 2), (20, .invokespecial 100, 3), (23, .athrow, 1), (24, .aload_n 0, 1), (25, .getfield 16, 3), (28, .getfield 135, 3), (31, .iload_n 1, 1), (32, .iaload, 1), (33, .istore_n 3, 1), (34, .aload_n 0, 1), (35, .getfield 16, 3), (38, .getfield 139, 3), (41, .iload_n 1, 1), (42, .iaload, 1), (43, .istore 4, 2), (45, .iload_n 2, 1), (46, .tableswitch 61 0 3 #[30, 32, 35, 46], 30), (76, .iload_n 3, 1), (77, .ireturn, 1), (78, .iload 4, 2), (80, .ireturn, 1), (81, .aload_n 0, 1), (82, .getfield 16, 3), (85, .iload_n 3, 1), (86, .iload 4, 2), (88, .invokevirtual 142, 3), (91, .ireturn, 1), (92, .aload_n 0, 1), (93, .getfield 37, 3), (96, .aload_n 0, 1), (97, .getfield 16, 3), (100, .iload_n 3, 1), (101, .iload 4, 2), (103, .invokevirtual 146, 3), (106, .ireturn, 1), (107, .aload_n 0, 1), (108, .getfield 37, 3), (111, .aload_n 0, 1), (112, .getfield 16, 3), (115, .iload 4, 2), (117, .iload_n 3, 1), (118, .invokevirtual 146, 3), (121, .ireturn, 1)]
theorem tX10_edge : Tb mX10_edge.2.1 lX10_edge := Tb.of (by decide +kernel)
def lX10_degree : List (Nat × Instr × Nat) := [(0, .aload_n 0, 1), (1, .iload_n 1, 1), (2, .invokevirtual 150, 3), (5, .aload_n 0, 1), (6, .getfield 16, 3), (9, .iload_n 1, 1), (10, .invokevirtual 153, 3), (13, .ireturn, 1)]
theorem tX10_degree : Tb mX10_degree.2.1 lX10_degree := Tb.of (by decide +kernel)
def lX10_reachable : List (Nat × Instr × Nat) := [(0, .aload_n 0, 1), (1, .iload_n 1, 1), (2, .invokevirtual 150, 3), (5, .aload_n 0, 1), (6, .getfield 16, 3), (9, .iload_n 1, 1), (10, .invokevirtual 157, 3), (13, .ireturn, 1)]
theorem tX10_reachable : Tb mX10_reachable.2.1 lX10_reachable := Tb.of (by decide +kernel)
def lX10_transition : List (Nat × Instr × Nat) := [(0, .aload_n 0, 1), (1, .iload_n 1, 1), (2, .invokevirtual 150, 3), (5, .aload_n 0, 1), (6, .iload_n 2, 1), (7, .invokevirtual 150, 3), (10, .aload_n 0, 1), (11, .getfield 16, 3), (14, .iload_n 1, 1), (15, .iload_n 2, 1), (16, .aload_n 0, 1), (17, .getfield 58, 3), (20, .invokevirtual 160, 3), (23, .aload_n 0, 1), (24, .getfield 58, 3), (27, .iload_n 3, 1), (28, .invokevirtual 164, 3), (31, .l2i, 1), (32, .ireturn, 1)]
theorem tX10_transition : Tb mX10_transition.2.1 lX10_transition := Tb.of (by decide +kernel)
def lX10_hittingTime : List (Nat × Instr × Nat) := [(0, .aload_n 0, 1), (1, .iload_n 1, 1), (2, .invokevirtual 150, 3), (5, .aload_n 0, 1), (6, .iload_n 2, 1), (7, .invokevirtual 150, 3), (10, .aload_n 0, 1), (11, .iload_n 1, 1), (12, .iload_n 2, 1), (13, .invokevirtual 168, 3), (16, .aload_n 0, 1), (17, .invokevirtual 172, 3), (20, .aload_n 0, 1), (21, .getfield 51, 3), (24, .aload_n 0, 1), (25, .getfield 16, 3), (28, .iload_n 1, 1), (29, .iload_n 2, 1), (30, .aload_n 0, 1), (31, .getfield 65, 3), (34, .aload_n 0, 1), (35, .getfield 58, 3), (38, .invokevirtual 175, 3), (41, .aload_n 0, 1), (42, .getfield 58, 3), (45, .iload_n 3, 1), (46, .invokevirtual 164, 3), (49, .lreturn, 1)]
theorem tX10_hittingTime : Tb mX10_hittingTime.2.1 lX10_hittingTime := Tb.of (by decide +kernel)
def lX10_hittingCost : List (Nat × Instr × Nat) := [(0, .aload_n 0, 1), (1, .iload_n 1, 1), (2, .invokevirtual 150, 3), (5, .aload_n 0, 1), (6, .iload_n 2, 1), (7, .invokevirtual 150, 3), (10, .aload_n 0, 1), (11, .iload_n 1, 1), (12, .iload_n 2, 1), (13, .invokevirtual 168, 3), (16, .aload_n 0, 1), (17, .invokevirtual 179, 3), (20, .aload_n 0, 1), (21, .getfield 51, 3), (24, .aload_n 0, 1), (25, .getfield 16, 3), (28, .iload_n 1, 1), (29, .iload_n 2, 1), (30, .aload_n 0, 1), (31, .getfield 65, 3), (34, .aload_n 0, 1), (35, .getfield 58, 3), (38, .invokevirtual 175, 3), (41, .aload_n 0, 1), (42, .getfield 58, 3), (45, .iload_n 3, 1), (46, .invokevirtual 164, 3), (49, .lreturn, 1)]
theorem tX10_hittingCost : Tb mX10_hittingCost.2.1 lX10_hittingCost := Tb.of (by decide +kernel)
def lX10_commuteTime : List (Nat × Instr × Nat) := [(0, .aload_n 0, 1), (1, .iload_n 1, 1), (2, .invokevirtual 150, 3), (5, .aload_n 0, 1), (6, .iload_n 2, 1), (7, .invokevirtual 150, 3), (10, .aload_n 0, 1), (11, .iload_n 1, 1), (12, .iload_n 2, 1), (13, .invokevirtual 168, 3), (16, .aload_n 0, 1), (17, .iload_n 1, 1), (18, .iload_n 2, 1), (19, .invokevirtual 182, 3), (22, .aload_n 0, 1), (23, .getfield 58, 3), (26, .iload_n 3, 1), (27, .invokevirtual 164, 3), (30, .lreturn, 1)]
theorem tX10_commuteTime : Tb mX10_commuteTime.2.1 lX10_commuteTime := Tb.of (by decide +kernel)
def lX10_resistance : List (Nat × Instr × Nat) := [(0, .aload_n 0, 1), (1, .iload_n 1, 1), (2, .invokevirtual 150, 3), (5, .aload_n 0, 1), (6, .iload_n 2, 1), (7, .invokevirtual 150, 3), (10, .aload_n 0, 1), (11, .iload_n 1, 1), (12, .iload_n 2, 1), (13, .invokevirtual 168, 3), (16, .aload_n 0, 1), (17, .iload_n 1, 1), (18, .iload_n 2, 1), (19, .invokevirtual 182, 3), (22, .iload_n 1, 1), (23, .iload_n 2, 1), (24, .if_icmp .eq 22, 3), (27, .aload_n 0, 1), (28, .getfield 58, 3), (31, .aload_n 0, 1), (32, .aload_n 0, 1), (33, .getfield 16, 3), (36, .iload_n 1, 1), (37, .invokevirtual 157, 3), (40, .invokevirtual 185, 3), (43, .invokevirtual 189, 3), (46, .aload_n 0, 1), (47, .getfield 58, 3), (50, .iload_n 3, 1), (51, .invokevirtual 164, 3), (54, .lreturn, 1)]
theorem tX10_resistance : Tb mX10_resistance.2.1 lX10_resistance := Tb.of (by decide +kernel)
def lX10_trees : List (Nat × Instr × Nat) := [(0, .aload_n 0, 1), (1, .invokevirtual 193, 3), (4, .lreturn, 1)]
theorem tX10_trees : Tb mX10_trees.2.1 lX10_trees := Tb.of (by decide +kernel)
def lX10_absorbing : List (Nat × Instr × Nat) := [(0, .aload_n 0, 1), (1, .getfield 16, 3), (4, .getfield 197, 3), (7, .ireturn, 1)]
theorem tX10_absorbing : Tb mX10_absorbing.2.1 lX10_absorbing := Tb.of (by decide +kernel)
def lX10_absorption : List (Nat × Instr × Nat) := [(0, .aload_n 0, 1), (1, .iload_n 1, 1), (2, .invokevirtual 150, 3), (5, .aload_n 0, 1), (6, .iload_n 2, 1), (7, .invokevirtual 150, 3), (10, .aload_n 0, 1), (11, .getfield 16, 3), (14, .iload_n 2, 1), (15, .invokevirtual 200, 3), (18, .ifCond .ne 13, 3), (21, .new 96, 3), (24, .dup, 1), (25, .ldc 204, 2), (27, .invokespecial 100, 3), (30, .athrow, 1), (31, .aload_n 0, 1), (32, .iload_n 1, 1), (33, .invokevirtual 206, 3), (36, .aload_n 0, 1), (37, .iload_n 1, 1), (38, .iload_n 2, 1), (39, .invokevirtual 209, 3), (42, .aload_n 0, 1), (43, .getfield 58, 3), (46, .iload_n 3, 1), (47, .invokevirtual 164, 3), (50, .lreturn, 1)]
theorem tX10_absorption : Tb mX10_absorption.2.1 lX10_absorption := Tb.of (by decide +kernel)
def lX10_absorptionTime : List (Nat × Instr × Nat) := [(0, .aload_n 0, 1), (1, .iload_n 1, 1), (2, .invokevirtual 150, 3), (5, .aload_n 0, 1), (6, .iload_n 1, 1), (7, .invokevirtual 206, 3), (10, .aload_n 0, 1), (11, .getfield 16, 3), (14, .iload_n 1, 1), (15, .invokevirtual 200, 3), (18, .ifCond .eq 15, 3), (21, .aload_n 0, 1), (22, .getfield 58, 3), (25, .lconst 0, 1), (26, .lconst 1, 1), (27, .invokevirtual 212, 3), (30, .goto 45, 3), (33, .aload_n 0, 1), (34, .invokevirtual 172, 3), (37, .aload_n 0, 1), (38, .getfield 51, 3), (41, .aload_n 0, 1), (42, .getfield 16, 3), (45, .aload_n 0, 1), (46, .getfield 16, 3), (49, .iload_n 1, 1), (50, .invokevirtual 157, 3), (53, .aload_n 0, 1), (54, .getfield 16, 3), (57, .getfield 197, 3), (60, .iconst (-1), 1), (61, .ixor, 1), (62, .iand, 1), (63, .iload_n 1, 1), (64, .aload_n 0, 1), (65, .getfield 65, 3), (68, .aload_n 0, 1), (69, .getfield 58, 3), (72, .invokevirtual 216, 3), (75, .aload_n 0, 1), (76, .getfield 58, 3), (79, .iload_n 2, 1), (80, .invokevirtual 164, 3), (83, .lreturn, 1)]
theorem tX10_absorptionTime : Tb mX10_absorptionTime.2.1 lX10_absorptionTime := Tb.of (by decide +kernel)
def lX10_blockOf : List (Nat × Instr × Nat) := [(0, .aload_n 0, 1), (1, .iload_n 1, 1), (2, .invokevirtual 150, 3), (5, .aload_n 0, 1), (6, .getfield 16, 3), (9, .getfield 219, 3), (12, .iload_n 1, 1), (13, .iaload, 1), (14, .ireturn, 1)]
theorem tX10_blockOf : Tb mX10_blockOf.2.1 lX10_blockOf := Tb.of (by decide +kernel)
def lX10_blockCount : List (Nat × Instr × Nat) := [(0, .aload_n 0, 1), (1, .getfield 16, 3), (4, .getfield 222, 3), (7, .ireturn, 1)]
theorem tX10_blockCount : Tb mX10_blockCount.2.1 lX10_blockCount := Tb.of (by decide +kernel)
def lX10_isLumpable : List (Nat × Instr × Nat) := [(0, .aload_n 0, 1), (1, .getfield 44, 3), (4, .aload_n 0, 1), (5, .getfield 16, 3), (8, .invokevirtual 225, 3), (11, .ifCond .ge 7, 3), (14, .iconst 1, 1), (15, .goto 4, 3), (18, .iconst 0, 1), (19, .ireturn, 1)]
theorem tX10_isLumpable : Tb mX10_isLumpable.2.1 lX10_isLumpable := Tb.of (by decide +kernel)
def lX10_parted : List (Nat × Instr × Nat) := [(0, .aload_n 0, 1), (1, .getfield 44, 3), (4, .aload_n 0, 1), (5, .getfield 16, 3), (8, .invokevirtual 225, 3), (11, .ireturn, 1)]
theorem tX10_parted : Tb mX10_parted.2.1 lX10_parted := Tb.of (by decide +kernel)
def lX10_lumped : List (Nat × Instr × Nat) := [(0, .aload_n 0, 1), (1, .iload_n 1, 1), (2, .invokevirtual 229, 3), (5, .aload_n 0, 1), (6, .iload_n 2, 1), (7, .invokevirtual 229, 3), (10, .aload_n 0, 1), (11, .invokevirtual 232, 3), (14, .aload_n 0, 1), (15, .getfield 44, 3), (18, .aload_n 0, 1), (19, .getfield 16, 3), (22, .invokevirtual 235, 3), (25, .aload_n 0, 1), (26, .getfield 44, 3), (29, .iload_n 1, 1), (30, .iload_n 2, 1), (31, .aload_n 0, 1), (32, .getfield 58, 3), (35, .invokevirtual 238, 3), (38, .aload_n 0, 1), (39, .getfield 58, 3), (42, .iload_n 3, 1), (43, .invokevirtual 164, 3), (46, .l2i, 1), (47, .ireturn, 1)]
theorem tX10_lumped : Tb mX10_lumped.2.1 lX10_lumped := Tb.of (by decide +kernel)
def lX10_lumpedTime : List (Nat × Instr × Nat) := [(0, .aload_n 0, 1), (1, .iload_n 1, 1), (2, .invokevirtual 229, 3), (5, .aload_n 0, 1), (6, .iload_n 2, 1), (7, .invokevirtual 229, 3), (10, .aload_n 0, 1), (11, .invokevirtual 232, 3), (14, .aload_n 0, 1), (15, .getfield 44, 3), (18, .aload_n 0, 1), (19, .getfield 16, 3), (22, .invokevirtual 235, 3), (25, .aload_n 0, 1), (26, .getfield 44, 3), (29, .getfield 241, 3), (32, .iload_n 1, 1), (33, .iload_n 2, 1), (34, .invokevirtual 244, 3), (37, .ifCond .ne 13, 3), (40, .new 248, 3), (43, .dup, 1), (44, .ldc 250, 2), (46, .invokespecial 252, 3), (49, .athrow, 1), (50, .aload_n 0, 1), (51, .getfield 51, 3), (54, .aload_n 0, 1), (55, .getfield 44, 3), (58, .getfield 241, 3), (61, .iload_n 1, 1), (62, .iload_n 2, 1), (63, .aload_n 0, 1), (64, .getfield 44, 3), (67, .getfield 253, 3), (70, .aload_n 0, 1), (71, .getfield 58, 3), (74, .invokevirtual 175, 3), (77, .aload_n 0, 1), (78, .getfield 58, 3), (81, .iload_n 3, 1), (82, .invokevirtual 164, 3), (85, .lreturn, 1)]
theorem tX10_lumpedTime : Tb mX10_lumpedTime.2.1 lX10_lumpedTime := Tb.of (by decide +kernel)
def lX10_after : List (Nat × Instr × Nat) := [(0, .aload_n 0, 1), (1, .iload_n 1, 1), (2, .invokevirtual 150, 3), (5, .aload_n 0, 1), (6, .iload_n 2, 1), (7, .invokevirtual 150, 3), (10, .iload_n 3, 1), (11, .ifCond .lt 9, 3), (14, .iload_n 3, 1), (15, .bipush 100, 2), (17, .if_icmp .le 14, 3), (20, .new 96, 3), (23, .dup, 1), (24, .ldc_w 256, 3), (27, .invokespecial 100, 3), (30, .athrow, 1), (31, .aload_n 0, 1), (32, .getfield 79, 3), (35, .aload_n 0, 1), (36, .getfield 16, 3), (39, .iload_n 1, 1), (40, .iload_n 2, 1), (41, .iload_n 3, 1), (42, .invokevirtual 258, 3), (45, .freturn, 1)]
theorem tX10_after : Tb mX10_after.2.1 lX10_after := Tb.of (by decide +kernel)
def lX10_walk : List (Nat × Instr × Nat) := [(0, .aload_n 0, 1), (1, .iload_n 1, 1), (2, .invokevirtual 150, 3), (5, .iload_n 2, 1), (6, .ifCond .lt 10, 3), (9, .iload_n 2, 1), (10, .sipush 1000, 3), (13, .if_icmp .le 14, 3), (16, .new 96, 3), (19, .dup, 1), (20, .ldc_w 262, 3), (23, .invokespecial 100, 3), (26, .athrow, 1), (27, .iload_n 3, 1), (28, .ifCond .ge 14, 3), (31, .new 96, 3), (34, .dup, 1), (35, .ldc_w 264, 3), (38, .invokespecial 100, 3), (41, .athrow, 1), (42, .iload 4, 2), (44, .ifCond .lt 9, 3), (47, .iload 4, 2), (49, .iconst 3, 1), (50, .if_icmp .le 14, 3), (53, .new 96, 3), (56, .dup, 1), (57, .ldc_w 266, 3), (60, .invokespecial 100, 3), (63, .athrow, 1), (64, .aload_n 0, 1), (65, .getfield 37, 3), (68, .aload_n 0, 1), (69, .getfield 16, 3), (72, .invokevirtual 268, 3), (75, .aload_n 0, 1), (76, .getfield 72, 3), (79, .aload_n 0, 1), (80, .getfield 16, 3), (83, .aload_n 0, 1), (84, .getfield 37, 3), (87, .iload_n 1, 1), (88, .iload_n 2, 1), (89, .iload_n 3, 1), (90, .invokevirtual 271, 3), (93, .aload_n 0, 1), (94, .getfield 72, 3), (97, .iload 4, 2), (99, .invokevirtual 275, 3), (102, .ireturn, 1)]
theorem tX10_walk : Tb mX10_walk.2.1 lX10_walk := Tb.of (by decide +kernel)
def lX10_setWeight : List (Nat × Instr × Nat) := [(0, .aload_n 0, 1), (1, .iload_n 1, 1), (2, .invokevirtual 130, 3), (5, .aload_n 0, 1), (6, .iload_n 2, 1), (7, .invokevirtual 278, 3), (10, .aload_n 0, 1), (11, .getfield 23, 3), (14, .aload_n 0, 1), (15, .getfield 16, 3), (18, .invokevirtual 114, 3), (21, .aload_n 0, 1), (22, .getfield 16, 3), (25, .getfield 135, 3), (28, .iload_n 1, 1), (29, .iaload, 1), (30, .istore_n 3, 1), (31, .aload_n 0, 1), (32, .getfield 16, 3), (35, .getfield 139, 3), (38, .iload_n 1, 1), (39, .iaload, 1), (40, .istore 4, 2), (42, .aload_n 0, 1), (43, .getfield 16, 3), (46, .iload_n 3, 1), (47, .iload 4, 2), (49, .invokevirtual 142, 3), (52, .istore 5, 2), (54, .aload_n 0, 1), (55, .getfield 16, 3), (58, .iload_n 3, 1), (59, .iload 4, 2), (61, .iload_n 2, 1), (62, .invokevirtual 281, 3), (65, .iload 5, 2), (67, .ireturn, 1)]
theorem tX10_setWeight : Tb mX10_setWeight.2.1 lX10_setWeight := Tb.of (by decide +kernel)
def lX10_addEdge : List (Nat × Instr × Nat) := [(0, .aload_n 0, 1), (1, .iload_n 1, 1), (2, .invokevirtual 150, 3), (5, .aload_n 0, 1), (6, .iload_n 2, 1), (7, .invokevirtual 150, 3), (10, .iload_n 1, 1), (11, .iload_n 2, 1), (12, .if_icmp .ne 14, 3), (15, .new 96, 3), (18, .dup, 1), (19, .ldc_w 285, 3), (22, .invokespecial 100, 3), (25, .athrow, 1), (26, .aload_n 0, 1), (27, .iload_n 3, 1), (28, .invokevirtual 278, 3), (31, .aload_n 0, 1), (32, .getfield 16, 3), (35, .iload_n 1, 1), (36, .iload_n 2, 1), (37, .invokevirtual 142, 3), (40, .ifCond .eq 14, 3), (43, .new 248, 3), (46, .dup, 1), (47, .ldc_w 287, 3), (50, .invokespecial 252, 3), (53, .athrow, 1), (54, .aload_n 0, 1), (55, .getfield 23, 3), (58, .aload_n 0, 1), (59, .getfield 16, 3), (62, .invokevirtual 114, 3), (65, .aload_n 0, 1), (66, .getfield 16, 3), (69, .iload_n 1, 1), (70, .iload_n 2, 1), (71, .iload_n 3, 1), (72, .invokevirtual 289, 3), (75, .aload_n 0, 1), (76, .getfield 16, 3), (79, .getfield 124, 3), (82, .iconst 1, 1), (83, .isub, 1), (84, .ireturn, 1)]
theorem tX10_addEdge : Tb mX10_addEdge.2.1 lX10_addEdge := Tb.of (by decide +kernel)
def lX10_removeEdge : List (Nat × Instr × Nat) := [(0, .aload_n 0, 1), (1, .iload_n 1, 1), (2, .invokevirtual 130, 3), (5, .aload_n 0, 1), (6, .getfield 23, 3), (9, .aload_n 0, 1), (10, .getfield 16, 3), (13, .invokevirtual 114, 3), (16, .aload_n 0, 1), (17, .getfield 16, 3), (20, .iload_n 1, 1), (21, .invokevirtual 292, 3), (24, .aload_n 0, 1), (25, .getfield 16, 3), (28, .getfield 124, 3), (31, .ireturn, 1)]
theorem tX10_removeEdge : Tb mX10_removeEdge.2.1 lX10_removeEdge := Tb.of (by decide +kernel)
def lX10_setAbsorbing : List (Nat × Instr × Nat) := [(0, .aload_n 0, 1), (1, .iload_n 1, 1), (2, .invokevirtual 150, 3), (5, .aload_n 0, 1), (6, .getfield 23, 3), (9, .aload_n 0, 1), (10, .getfield 16, 3), (13, .invokevirtual 114, 3), (16, .iconst 1, 1), (17, .iload_n 1, 1), (18, .ishl, 1), (19, .istore_n 3, 1), (20, .aload_n 0, 1), (21, .getfield 16, 3), (24, .iload_n 2, 1), (25, .ifCond .eq 15, 3), (28, .aload_n 0, 1), (29, .getfield 16, 3), (32, .getfield 197, 3), (35, .iload_n 3, 1), (36, .ior, 1), (37, .goto 14, 3), (40, .aload_n 0, 1), (41, .getfield 16, 3), (44, .getfield 197, 3), (47, .iload_n 3, 1), (48, .iconst (-1), 1), (49, .ixor, 1), (50, .iand, 1), (51, .putfield 197, 3), (54, .aload_n 0, 1), (55, .getfield 16, 3), (58, .getfield 197, 3), (61, .ireturn, 1)]
theorem tX10_setAbsorbing : Tb mX10_setAbsorbing.2.1 lX10_setAbsorbing := Tb.of (by decide +kernel)
def lX10_join : List (Nat × Instr × Nat) := [(0, .aload_n 0, 1), (1, .iload_n 1, 1), (2, .invokevirtual 150, 3), (5, .aload_n 0, 1), (6, .iload_n 2, 1), (7, .invokevirtual 150, 3), (10, .aload_n 0, 1), (11, .getfield 23, 3), (14, .aload_n 0, 1), (15, .getfield 16, 3), (18, .invokevirtual 114, 3), (21, .aload_n 0, 1), (22, .getfield 16, 3), (25, .iload_n 1, 1), (26, .iload_n 2, 1), (27, .invokevirtual 295, 3), (30, .aload_n 0, 1), (31, .getfield 16, 3), (34, .getfield 222, 3), (37, .ireturn, 1)]
theorem tX10_join : Tb mX10_join.2.1 lX10_join := Tb.of (by decide +kernel)
def lX10_separate : List (Nat × Instr × Nat) := [(0, .aload_n 0, 1), (1, .iload_n 1, 1), (2, .invokevirtual 150, 3), (5, .aload_n 0, 1), (6, .getfield 23, 3), (9, .aload_n 0, 1), (10, .getfield 16, 3), (13, .invokevirtual 114, 3), (16, .aload_n 0, 1), (17, .getfield 16, 3), (20, .iload_n 1, 1), (21, .invokevirtual 298, 3), (24, .aload_n 0, 1), (25, .getfield 16, 3), (28, .getfield 222, 3), (31, .ireturn, 1)]
theorem tX10_separate : Tb mX10_separate.2.1 lX10_separate := Tb.of (by decide +kernel)
def lX10_refine : List (Nat × Instr × Nat) := [(0, .aload_n 0, 1), (1, .getfield 23, 3), (4, .aload_n 0, 1), (5, .getfield 16, 3), (8, .invokevirtual 114, 3), (11, .aload_n 0, 1), (12, .getfield 44, 3), (15, .aload_n 0, 1), (16, .getfield 16, 3), (19, .invokevirtual 301, 3), (22, .aload_n 0, 1), (23, .getfield 16, 3), (26, .getfield 222, 3), (29, .ireturn, 1)]
theorem tX10_refine : Tb mX10_refine.2.1 lX10_refine := Tb.of (by decide +kernel)
def lX10_undo : List (Nat × Instr × Nat) := [(0, .aload_n 0, 1), (1, .getfield 23, 3), (4, .aload_n 0, 1), (5, .getfield 16, 3), (8, .invokevirtual 304, 3), (11, .ireturn, 1)]
theorem tX10_undo : Tb mX10_undo.2.1 lX10_undo := Tb.of (by decide +kernel)
def lX10_checksum : List (Nat × Instr × Nat) := [(0, .aload_n 0, 1), (1, .getfield 16, 3), (4, .getfield 127, 3), (7, .i2l, 1), (8, .lstore_n 1, 1), (9, .ldc2_w 307, 3), (12, .lload_n 1, 1), (13, .lmul, 1), (14, .aload_n 0, 1), (15, .getfield 16, 3), (18, .getfield 197, 3), (21, .i2l, 1), (22, .ladd, 1), (23, .lstore_n 1, 1), (24, .iconst 0, 1), (25, .istore_n 3, 1), (26, .iload_n 3, 1), (27, .aload_n 0, 1), (28, .getfield 16, 3), (31, .getfield 124, 3), (34, .if_icmp .ge 70, 3), (37, .aload_n 0, 1), (38, .getfield 16, 3), (41, .getfield 135, 3), (44, .iload_n 3, 1), (45, .iaload, 1), (46, .istore 4, 2), (48, .aload_n 0, 1), (49, .getfield 16, 3), (52, .getfield 139, 3), (55, .iload_n 3, 1), (56, .iaload, 1), (57, .istore 5, 2), (59, .ldc2_w 307, 3), (62, .lload_n 1, 1), (63, .lmul, 1), (64, .iload 4, 2), (66, .i2l, 1), (67, .ladd, 1), (68, .lstore_n 1, 1), (69, .ldc2_w 307, 3), (72, .lload_n 1, 1), (73, .lmul, 1), (74, .iload 5, 2), (76, .i2l, 1), (77, .ladd, 1), (78, .lstore_n 1, 1), (79, .ldc2_w 307, 3), (82, .lload_n 1, 1), (83, .lmul, 1), (84, .aload_n 0, 1), (85, .getfield 16, 3), (88, .iload 4, 2), (90, .iload 5, 2), (92, .invokevirtual 142, 3), (95, .i2l, 1), (96, .ladd, 1), (97, .lstore_n 1, 1), (98, .iinc 3 1, 3), (101, .goto (-75), 3), (104, .iconst 0, 1), (105, .istore_n 3, 1), (106, .iload_n 3, 1), (107, .aload_n 0, 1), (108, .getfield 16, 3), (111, .getfield 127, 3), (114, .if_icmp .ge 26, 3), (117, .ldc2_w 307, 3), (120, .lload_n 1, 1), (121, .lmul, 1), (122, .aload_n 0, 1), (123, .getfield 16, 3), (126, .getfield 219, 3), (129, .iload_n 3, 1), (130, .iaload, 1), (131, .i2l, 1), (132, .ladd, 1), (133, .lstore_n 1, 1), (134, .iinc 3 1, 3), (137, .goto (-31), 3), (140, .ldc2_w 307, 3), (143, .lload_n 1, 1), (144, .lmul, 1), (145, .aload_n 0, 1), (146, .invokevirtual 193, 3), (149, .ladd, 1), (150, .lreturn, 1)]
theorem tX10_checksum : Tb mX10_checksum.2.1 lX10_checksum := Tb.of (by decide +kernel)
def lX10_requireVertex : List (Nat × Instr × Nat) := [(0, .iload_n 1, 1), (1, .ifCond .lt 14, 3), (4, .iload_n 1, 1), (5, .aload_n 0, 1), (6, .getfield 16, 3), (9, .getfield 127, 3), (12, .if_icmp .lt 14, 3), (15, .new 309, 3), (18, .dup, 1), (19, .ldc_w 311, 3), (22, .invokespecial 313, 3), (25, .athrow, 1), (26, .return_, 1)]
theorem tX10_requireVertex : Tb mX10_requireVertex.2.1 lX10_requireVertex := Tb.of (by decide +kernel)
def lX10_requireEdge : List (Nat × Instr × Nat) := [(0, .iload_n 1, 1), (1, .ifCond .lt 14, 3), (4, .iload_n 1, 1), (5, .aload_n 0, 1), (6, .getfield 16, 3), (9, .getfield 124, 3), (12, .if_icmp .lt 14, 3), (15, .new 309, 3), (18, .dup, 1), (19, .ldc_w 314, 3), (22, .invokespecial 313, 3), (25, .athrow, 1), (26, .return_, 1)]
theorem tX10_requireEdge : Tb mX10_requireEdge.2.1 lX10_requireEdge := Tb.of (by decide +kernel)
def lX10_requireBlock : List (Nat × Instr × Nat) := [(0, .iload_n 1, 1), (1, .ifCond .lt 14, 3), (4, .iload_n 1, 1), (5, .aload_n 0, 1), (6, .getfield 16, 3), (9, .getfield 222, 3), (12, .if_icmp .lt 14, 3), (15, .new 309, 3), (18, .dup, 1), (19, .ldc_w 316, 3), (22, .invokespecial 313, 3), (25, .athrow, 1), (26, .return_, 1)]
theorem tX10_requireBlock : Tb mX10_requireBlock.2.1 lX10_requireBlock := Tb.of (by decide +kernel)
def lX10_requireWeight : List (Nat × Instr × Nat) := [(0, .iload_n 1, 1), (1, .iconst 1, 1), (2, .if_icmp .lt 9, 3), (5, .iload_n 1, 1), (6, .bipush 9, 2), (8, .if_icmp .le 14, 3), (11, .new 96, 3), (14, .dup, 1), (15, .ldc_w 318, 3), (18, .invokespecial 100, 3), (21, .athrow, 1), (22, .return_, 1)]
theorem tX10_requireWeight : Tb mX10_requireWeight.2.1 lX10_requireWeight := Tb.of (by decide +kernel)
def lX10_requireWay : List (Nat × Instr × Nat) := [(0, .aload_n 0, 1), (1, .getfield 16, 3), (4, .iload_n 1, 1), (5, .iload_n 2, 1), (6, .invokevirtual 244, 3), (9, .ifCond .ne 14, 3), (12, .new 248, 3), (15, .dup, 1), (16, .ldc_w 320, 3), (19, .invokespecial 252, 3), (22, .athrow, 1), (23, .return_, 1)]
theorem tX10_requireWay : Tb mX10_requireWay.2.1 lX10_requireWay := Tb.of (by decide +kernel)
def lX10_requireAbsorbingWay : List (Nat × Instr × Nat) := [(0, .aload_n 0, 1), (1, .getfield 16, 3), (4, .iload_n 1, 1), (5, .invokevirtual 157, 3), (8, .aload_n 0, 1), (9, .getfield 16, 3), (12, .getfield 197, 3), (15, .iand, 1), (16, .ifCond .ne 14, 3), (19, .new 248, 3), (22, .dup, 1), (23, .ldc_w 322, 3), (26, .invokespecial 252, 3), (29, .athrow, 1), (30, .return_, 1)]
theorem tX10_requireAbsorbingWay : Tb mX10_requireAbsorbingWay.2.1 lX10_requireAbsorbingWay := Tb.of (by decide +kernel)
def lX10_requireLumpable : List (Nat × Instr × Nat) := [(0, .aload_n 0, 1), (1, .getfield 44, 3), (4, .aload_n 0, 1), (5, .getfield 16, 3), (8, .invokevirtual 225, 3), (11, .ifCond .lt 14, 3), (14, .new 248, 3), (17, .dup, 1), (18, .ldc_w 324, 3), (21, .invokespecial 252, 3), (24, .athrow, 1), (25, .return_, 1)]
theorem tX10_requireLumpable : Tb mX10_requireLumpable.2.1 lX10_requireLumpable := Tb.of (by decide +kernel)
def lX10_gainSteps : List (Nat × Instr × Nat) := [(0, .iconst 0, 1), (1, .istore_n 1, 1), (2, .iload_n 1, 1), (3, .aload_n 0, 1), (4, .getfield 16, 3), (7, .getfield 127, 3), (10, .if_icmp .ge 24, 3), (13, .aload_n 0, 1), (14, .getfield 65, 3), (17, .iload_n 1, 1), (18, .aload_n 0, 1), (19, .getfield 16, 3), (22, .iload_n 1, 1), (23, .invokevirtual 153, 3), (26, .i2l, 1), (27, .lastore, 1), (28, .iinc 1 1, 3), (31, .goto (-29), 3), (34, .return_, 1)]
theorem tX10_gainSteps : Tb mX10_gainSteps.2.1 lX10_gainSteps := Tb.of (by decide +kernel)
def lX10_gainCosts : List (Nat × Instr × Nat) := [(0, .aload_n 0, 1), (1, .getfield 37, 3), (4, .aload_n 0, 1), (5, .getfield 16, 3), (8, .invokevirtual 268, 3), (11, .iconst 0, 1), (12, .istore_n 1, 1), (13, .iload_n 1, 1), (14, .aload_n 0, 1), (15, .getfield 16, 3), (18, .getfield 127, 3), (21, .if_icmp .ge 65, 3), (24, .lconst 0, 1), (25, .lstore_n 2, 1), (26, .iconst 0, 1), (27, .istore 4, 2), (29, .iload 4, 2), (31, .aload_n 0, 1), (32, .getfield 16, 3), (35, .getfield 127, 3), (38, .if_icmp .ge 35, 3), (41, .lload_n 2, 1), (42, .aload_n 0, 1), (43, .getfield 16, 3), (46, .iload_n 1, 1), (47, .iload 4, 2), (49, .invokevirtual 142, 3), (52, .i2l, 1), (53, .aload_n 0, 1), (54, .getfield 37, 3), (57, .iload_n 1, 1), (58, .iload 4, 2), (60, .invokevirtual 326, 3), (63, .i2l, 1), (64, .lmul, 1), (65, .ladd, 1), (66, .lstore_n 2, 1), (67, .iinc 4 1, 3), (70, .goto (-41), 3), (73, .aload_n 0, 1), (74, .getfield 65, 3), (77, .iload_n 1, 1), (78, .lload_n 2, 1), (79, .lastore, 1), (80, .iinc 1 1, 3), (83, .goto (-70), 3), (86, .return_, 1)]
theorem tX10_gainCosts : Tb mX10_gainCosts.2.1 lX10_gainCosts := Tb.of (by decide +kernel)
def lX10_findCommuteTime : List (Nat × Instr × Nat) := [(0, .aload_n 0, 1), (1, .invokevirtual 172, 3), (4, .aload_n 0, 1), (5, .getfield 51, 3), (8, .aload_n 0, 1), (9, .getfield 16, 3), (12, .iload_n 1, 1), (13, .iload_n 2, 1), (14, .aload_n 0, 1), (15, .getfield 65, 3), (18, .aload_n 0, 1), (19, .getfield 58, 3), (22, .invokevirtual 175, 3), (25, .aload_n 0, 1), (26, .getfield 51, 3), (29, .aload_n 0, 1), (30, .getfield 16, 3), (33, .iload_n 2, 1), (34, .iload_n 1, 1), (35, .aload_n 0, 1), (36, .getfield 65, 3), (39, .aload_n 0, 1), (40, .getfield 62, 3), (43, .invokevirtual 175, 3), (46, .aload_n 0, 1), (47, .getfield 58, 3), (50, .aload_n 0, 1), (51, .getfield 62, 3), (54, .invokevirtual 329, 3), (57, .return_, 1)]
theorem tX10_findCommuteTime : Tb mX10_findCommuteTime.2.1 lX10_findCommuteTime := Tb.of (by decide +kernel)
def lX10_findAbsorption : List (Nat × Instr × Nat) := [(0, .aload_n 0, 1), (1, .getfield 16, 3), (4, .iload_n 1, 1), (5, .invokevirtual 200, 3), (8, .ifCond .eq 22, 3), (11, .aload_n 0, 1), (12, .getfield 58, 3), (15, .iload_n 1, 1), (16, .iload_n 2, 1), (17, .if_icmp .ne 7, 3), (20, .lconst 1, 1), (21, .goto 4, 3), (24, .lconst 0, 1), (25, .lconst 1, 1), (26, .invokevirtual 212, 3), (29, .return_, 1), (30, .iconst 0, 1), (31, .istore_n 3, 1), (32, .iload_n 3, 1), (33, .aload_n 0, 1), (34, .getfield 16, 3), (37, .getfield 127, 3), (40, .if_icmp .ge 25, 3), (43, .aload_n 0, 1), (44, .getfield 65, 3), (47, .iload_n 3, 1), (48, .aload_n 0, 1), (49, .getfield 16, 3), (52, .iload_n 3, 1), (53, .iload_n 2, 1), (54, .invokevirtual 142, 3), (57, .i2l, 1), (58, .lastore, 1), (59, .iinc 3 1, 3), (62, .goto (-30), 3), (65, .aload_n 0, 1), (66, .getfield 51, 3), (69, .aload_n 0, 1), (70, .getfield 16, 3), (73, .aload_n 0, 1), (74, .getfield 16, 3), (77, .iload_n 1, 1), (78, .invokevirtual 157, 3), (81, .aload_n 0, 1), (82, .getfield 16, 3), (85, .getfield 197, 3), (88, .iconst (-1), 1), (89, .ixor, 1), (90, .iand, 1), (91, .iload_n 1, 1), (92, .aload_n 0, 1), (93, .getfield 65, 3), (96, .aload_n 0, 1), (97, .getfield 58, 3), (100, .invokevirtual 216, 3), (103, .return_, 1)]
theorem tX10_findAbsorption : Tb mX10_findAbsorption.2.1 lX10_findAbsorption := Tb.of (by decide +kernel)
def lX10_sumOfDegrees : List (Nat × Instr × Nat) := [(0, .lconst 0, 1), (1, .lstore_n 2, 1), (2, .iconst 0, 1), (3, .istore 4, 2), (5, .iload 4, 2), (7, .aload_n 0, 1), (8, .getfield 16, 3), (11, .getfield 127, 3), (14, .if_icmp .ge 31, 3), (17, .iload_n 1, 1), (18, .iload 4, 2), (20, .ishr, 1), (21, .iconst 1, 1), (22, .iand, 1), (23, .ifCond .eq 16, 3), (26, .lload_n 2, 1), (27, .aload_n 0, 1), (28, .getfield 16, 3), (31, .iload 4, 2), (33, .invokevirtual 153, 3), (36, .i2l, 1), (37, .ladd, 1), (38, .lstore_n 2, 1), (39, .iinc 4 1, 3), (42, .goto (-37), 3), (45, .lload_n 2, 1), (46, .lreturn, 1)]
theorem tX10_sumOfDegrees : Tb mX10_sumOfDegrees.2.1 lX10_sumOfDegrees := Tb.of (by decide +kernel)
def lX10_countTrees : List (Nat × Instr × Nat) := [(0, .aload_n 0, 1), (1, .getfield 16, 3), (4, .getfield 127, 3), (7, .iconst 2, 1), (8, .if_icmp .ge 5, 3), (11, .lconst 0, 1), (12, .lreturn, 1), (13, .aload_n 0, 1), (14, .getfield 51, 3), (17, .aload_n 0, 1), (18, .getfield 16, 3), (21, .invokevirtual 333, 3), (24, .lreturn, 1)]
theorem tX10_countTrees : Tb mX10_countTrees.2.1 lX10_countTrees := Tb.of (by decide +kernel)
def lX11_init : List (Nat × Instr × Nat) := [(0, .aload_n 0, 1), (1, .invokespecial 1, 3), (4, .aload_n 0, 1), (5, .sipush 11160, 3), (8, .newarray .int, 2), (10, .putfield 7, 3), (13, .aload_n 0, 1), (14, .sipush 1240, 3), (17, .newarray .int, 2), (19, .putfield 13, 3), (22, .aload_n 0, 1), (23, .sipush 600, 3), (26, .newarray .int, 2), (28, .putfield 16, 3), (31, .aload_n 0, 1), (32, .iconst (-1), 1), (33, .putfield 19, 3), (36, .aload_n 0, 1), (37, .bipush 36, 2), (39, .newarray .int, 2), (41, .putfield 23, 3), (44, .aload_n 0, 1), (45, .bipush 36, 2), (47, .newarray .int, 2), (49, .putfield 26, 3), (52, .aload_n 0, 1), (53, .bipush 6, 2), (55, .newarray .int, 2), (57, .putfield 29, 3), (60, .aload_n 0, 1), (61, .sipush 1200, 3), (64, .newarray .long, 2), (66, .putfield 32, 3), (69, .aload_n 0, 1), (70, .bipush 42, 2), (72, .newarray .long, 2), (74, .putfield 36, 3), (77, .aload_n 0, 1), (78, .bipush 36, 2), (80, .newarray .long, 2), (82, .putfield 39, 3), (85, .aload_n 0, 1), (86, .bipush 6, 2), (88, .newarray .int, 2), (90, .putfield 42, 3), (93, .aload_n 0, 1), (94, .bipush 6, 2), (96, .newarray .int, 2), (98, .putfield 45, 3), (101, .aload_n 0, 1), (102, .bipush 6, 2), (104, .newarray .float, 2), (106, .putfield 48, 3), (109, .aload_n 0, 1), (110, .bipush 6, 2), (112, .newarray .float, 2), (114, .putfield 52, 3), (117, .return_, 1)]
theorem tX11_init : Tb mX11_init.2.1 lX11_init := Tb.of (by decide +kernel)
def lX11_thrown : List (Nat × Instr × Nat) := [(0, .aload_n 0, 1), (1, .getfield 55, 3), (4, .ireturn, 1)]
theorem tX11_thrown : Tb mX11_thrown.2.1 lX11_thrown := Tb.of (by decide +kernel)
def lX11_isIn : List (Nat × Instr × Nat) := [(0, .lload_n 0, 1), (1, .lload_n 2, 1), (2, .lcmp, 1), (3, .ifCond .lt 14, 3), (6, .lload_n 0, 1), (7, .lload 4, 2), (9, .lcmp, 1), (10, .ifCond .gt 7, 3), (13, .iconst 1, 1), (14, .goto 4, 3), (17, .iconst 0, 1), (18, .ireturn, 1)]
theorem tX11_isIn : Tb mX11_isIn.2.1 lX11_isIn := Tb.of (by decide +kernel)
def lX11_get : List (Nat × Instr × Nat) := [(0, .aload_n 0, 1), (1, .getfield 7, 3), (4, .sipush 1240, 3), (7, .aload_n 0, 1), (8, .getfield 58, 3), (11, .imul, 1), (12, .iload_n 1, 1), (13, .iadd, 1), (14, .iaload, 1), (15, .ireturn, 1)]
theorem tX11_get : Tb mX11_get.2.1 lX11_get := Tb.of (by decide +kernel)
def lX11_put : List (Nat × Instr × Nat) := [(0, .aload_n 0, 1), (1, .getfield 7, 3), (4, .sipush 1240, 3), (7, .aload_n 0, 1), (8, .getfield 58, 3), (11, .imul, 1), (12, .iload_n 1, 1), (13, .iadd, 1), (14, .iload_n 2, 1), (15, .iastore, 1), (16, .return_, 1)]
theorem tX11_put : Tb mX11_put.2.1 lX11_put := Tb.of (by decide +kernel)
def lX11_change : List (Nat × Instr × Nat) := [(0, .aload_n 0, 1), (1, .getfield 58, 3), (4, .iconst 1, 1), (5, .iadd, 1), (6, .bipush 9, 2), (8, .irem, 1), (9, .istore_n 1, 1), (10, .iconst 0, 1), (11, .istore_n 2, 1), (12, .iload_n 2, 1), (13, .sipush 1240, 3), (16, .if_icmp .ge 26, 3), (19, .aload_n 0, 1), (20, .getfield 7, 3), (23, .sipush 1240, 3), (26, .iload_n 1, 1), (27, .imul, 1), (28, .iload_n 2, 1), (29, .iadd, 1), (30, .aload_n 0, 1), (31, .iload_n 2, 1), (32, .invokevirtual 61, 3), (35, .iastore, 1), (36, .iinc 2 1, 3), (39, .goto (-27), 3), (42, .aload_n 0, 1), (43, .iload_n 1, 1), (44, .putfield 58, 3), (47, .aload_n 0, 1), (48, .aload_n 0, 1), (49, .getfield 65, 3), (52, .bipush 8, 2), (54, .if_icmp .ge 12, 3), (57, .aload_n 0, 1), (58, .getfield 65, 3), (61, .iconst 1, 1), (62, .iadd, 1), (63, .goto 7, 3), (66, .aload_n 0, 1), (67, .getfield 65, 3), (70, .putfield 65, 3), (73, .return_, 1)]
theorem tX11_change : Tb mX11_change.2.1 lX11_change := Tb.of (by decide +kernel)
def lX11_right : List (Nat × Instr × Nat) := [(0, .aload_n 0, 1), (1, .getfield 55, 3), (4, .ifCond .ne 12, 3), (7, .iload_n 1, 1), (8, .ifCond .ne 8, 3), (11, .aload_n 0, 1), (12, .iload_n 2, 1), (13, .putfield 55, 3), (16, .aload_n 0, 1), (17, .getfield 55, 3), (20, .ifCond .ne 7, 3), (23, .iconst 1, 1), (24, .goto 4, 3), (27, .iconst 0, 1), (28, .ireturn, 1)]
theorem tX11_right : Tb mX11_right.2.1 lX11_right := Tb.of (by decide +kernel)
def lX11_append : List (Nat × Instr × Nat) := [(0, .aload_n 0, 1), (1, .iconst 0, 1), (2, .putfield 55, 3), (5, .aload_n 0, 1), (6, .getfield 68, 3), (9, .bipush 20, 2), (11, .iadd, 1), (12, .sipush 600, 3), (15, .if_icmp .le 5, 3), (18, .iconst (-1), 1), (19, .ireturn, 1), (20, .iconst 0, 1), (21, .istore 6, 2), (23, .iload 6, 2), (25, .bipush 20, 2), (27, .if_icmp .ge 86, 3), (30, .iload 6, 2), (32, .iconst 4, 1), (33, .if_icmp .ge 7, 3), (36, .iload_n 1, 1), (37, .goto 39, 3), (40, .iload 6, 2), (42, .bipush 8, 2), (44, .if_icmp .ge 7, 3), (47, .iload_n 2, 1), (48, .goto 28, 3), (51, .iload 6, 2), (53, .bipush 12, 2), (55, .if_icmp .ge 7, 3), (58, .iload_n 3, 1), (59, .goto 17, 3), (62, .iload 6, 2), (64, .bipush 16, 2), (66, .if_icmp .ge 8, 3), (69, .iload 4, 2), (71, .goto 5, 3), (74, .iload 5, 2), (76, .istore 7, 2), (78, .aload_n 0, 1), (79, .getfield 16, 3), (82, .aload_n 0, 1), (83, .getfield 68, 3), (86, .iload 6, 2), (88, .iadd, 1), (89, .iload 7, 2), (91, .bipush 24, 2), (93, .bipush 8, 2), (95, .iload 6, 2), (97, .iconst 4, 1), (98, .irem, 1), (99, .imul, 1), (100, .isub, 1), (101, .ishr, 1), (102, .sipush 255, 3), (105, .iand, 1), (106, .iastore, 1), (107, .iinc 6 1, 3), (110, .goto (-87), 3), (113, .aload_n 0, 1), (114, .dup, 1), (115, .getfield 68, 3), (118, .bipush 20, 2), (120, .iadd, 1), (121, .putfield 68, 3), (124, .aload_n 0, 1), (125, .getfield 68, 3), (128, .ireturn, 1)]
theorem tX11_append : Tb mX11_append.2.1 lX11_append := Tb.of (by decide +kernel)
def lX11_fails : List (Nat × Instr × Nat) := [(0, .aload_n 0, 1), (1, .getfield 71, 3), (4, .ifCond .eq 4, 3), (7, .return_, 1), (8, .aload_n 0, 1), (9, .iload_n 1, 1), (10, .putfield 71, 3), (13, .aload_n 0, 1), (14, .iload_n 2, 1), (15, .putfield 74, 3), (18, .return_, 1)]
theorem tX11_fails : Tb mX11_fails.2.1 lX11_fails := Tb.of (by decide +kernel)
def lX11_sees : List (Nat × Instr × Nat) := [(0, .aload_n 0, 1), (1, .getfield 77, 3), (4, .aload_n 0, 1), (5, .getfield 80, 3), (8, .if_icmp .ge 30, 3), (11, .aload_n 0, 1), (12, .getfield 16, 3), (15, .aload_n 0, 1), (16, .getfield 77, 3), (19, .iaload, 1), (20, .bipush 32, 2), (22, .if_icmp .ne 16, 3), (25, .aload_n 0, 1), (26, .dup, 1), (27, .getfield 77, 3), (30, .iconst 1, 1), (31, .iadd, 1), (32, .putfield 77, 3), (35, .goto (-35), 3), (38, .aload_n 0, 1), (39, .getfield 77, 3), (42, .aload_n 0, 1), (43, .getfield 80, 3), (46, .if_icmp .ge 15, 3), (49, .aload_n 0, 1), (50, .getfield 16, 3), (53, .aload_n 0, 1), (54, .getfield 77, 3), (57, .iaload, 1), (58, .goto 4, 3), (61, .iconst (-1), 1), (62, .ireturn, 1)]
theorem tX11_sees : Tb mX11_sees.2.1 lX11_sees := Tb.of (by decide +kernel)
def lX11_takes : List (Nat × Instr × Nat) := [(0, .aload_n 0, 1), (1, .getfield 71, 3), (4, .ifCond .eq 5, 3), (7, .iconst 0, 1), (8, .ireturn, 1), (9, .aload_n 0, 1), (10, .invokevirtual 83, 3), (13, .pop, 1), (14, .aload_n 0, 1), (15, .getfield 77, 3), (18, .istore_n 2, 1), (19, .iload_n 2, 1), (20, .aload_n 0, 1), (21, .getfield 80, 3), (24, .if_icmp .ge 31, 3), (27, .aload_n 0, 1), (28, .getfield 16, 3), (31, .iload_n 2, 1), (32, .iaload, 1), (33, .bipush 97, 2), (35, .if_icmp .lt 20, 3), (38, .aload_n 0, 1), (39, .getfield 16, 3), (42, .iload_n 2, 1), (43, .iaload, 1), (44, .bipush 122, 2), (46, .if_icmp .gt 9, 3), (49, .iinc 2 1, 3), (52, .goto (-33), 3), (55, .iload_n 2, 1), (56, .aload_n 0, 1), (57, .getfield 77, 3), (60, .isub, 1), (61, .aload_n 1, 1), (62, .invokevirtual 87, 3), (65, .if_icmp .ne 7, 3), (68, .iconst 1, 1), (69, .goto 4, 3), (72, .iconst 0, 1), (73, .istore_n 3, 1), (74, .iconst 0, 1), (75, .istore 4, 2), (77, .iload_n 3, 1), (78, .ifCond .eq 45, 3), (81, .iload 4, 2), (83, .aload_n 1, 1), (84, .invokevirtual 87, 3), (87, .if_icmp .ge 36, 3), (90, .aload_n 0, 1), (91, .getfield 16, 3), (94, .aload_n 0, 1), (95, .getfield 77, 3), (98, .iload 4, 2), (100, .iadd, 1), (101, .iaload, 1), (102, .aload_n 1, 1), (103, .iload 4, 2), (105, .invokevirtual 92, 3), (108, .if_icmp .ne 7, 3), (111, .iconst 1, 1), (112, .goto 4, 3), (115, .iconst 0, 1), (116, .istore_n 3, 1), (117, .iinc 4 1, 3), (120, .goto (-43), 3), (123, .iload_n 3, 1), (124, .ifCond .eq 8, 3), (127, .aload_n 0, 1), (128, .iload_n 2, 1), (129, .putfield 77, 3), (132, .iload_n 3, 1), (133, .ireturn, 1)]
theorem tX11_takes : Tb mX11_takes.2.1 lX11_takes := Tb.of (by decide +kernel)
def lX11_wants : List (Nat × Instr × Nat) := [(0, .aload_n 0, 1), (1, .getfield 71, 3), (4, .ifCond .eq 4, 3), (7, .return_, 1), (8, .aload_n 0, 1), (9, .invokevirtual 83, 3), (12, .iload_n 1, 1), (13, .if_icmp .eq 16, 3), (16, .aload_n 0, 1), (17, .bipush (-2), 2), (19, .aload_n 0, 1), (20, .getfield 77, 3), (23, .invokevirtual 96, 3), (26, .goto 13, 3), (29, .aload_n 0, 1), (30, .dup, 1), (31, .getfield 77, 3), (34, .iconst 1, 1), (35, .iadd, 1), (36, .putfield 77, 3), (39, .return_, 1)]
theorem tX11_wants : Tb mX11_wants.2.1 lX11_wants := Tb.of (by decide +kernel)
def lX11_isDigit : List (Nat × Instr × Nat) := [(0, .aload_n 0, 1), (1, .invokevirtual 83, 3), (4, .bipush 48, 2), (6, .if_icmp .lt 16, 3), (9, .aload_n 0, 1), (10, .invokevirtual 83, 3), (13, .bipush 57, 2), (15, .if_icmp .gt 7, 3), (18, .iconst 1, 1), (19, .goto 4, 3), (22, .iconst 0, 1), (23, .ireturn, 1)]
theorem tX11_isDigit : Tb mX11_isDigit.2.1 lX11_isDigit := Tb.of (by decide +kernel)
def lX11_reads : List (Nat × Instr × Nat) := [(0, .aload_n 0, 1), (1, .getfield 71, 3), (4, .ifCond .eq 5, 3), (7, .iconst 0, 1), (8, .ireturn, 1), (9, .aload_n 0, 1), (10, .invokevirtual 100, 3), (13, .ifCond .ne 15, 3), (16, .aload_n 0, 1), (17, .bipush (-2), 2), (19, .aload_n 0, 1), (20, .getfield 77, 3), (23, .invokevirtual 96, 3), (26, .iconst 0, 1), (27, .ireturn, 1), (28, .aload_n 0, 1), (29, .aload_n 0, 1), (30, .getfield 77, 3), (33, .putfield 104, 3), (36, .iconst 0, 1), (37, .istore_n 3, 1), (38, .aload_n 0, 1), (39, .getfield 77, 3), (42, .aload_n 0, 1), (43, .getfield 80, 3), (46, .if_icmp .ge 67, 3), (49, .aload_n 0, 1), (50, .getfield 16, 3), (53, .aload_n 0, 1), (54, .getfield 77, 3), (57, .iaload, 1), (58, .bipush 48, 2), (60, .if_icmp .lt 53, 3), (63, .aload_n 0, 1), (64, .getfield 16, 3), (67, .aload_n 0, 1), (68, .getfield 77, 3), (71, .iaload, 1), (72, .bipush 57, 2), (74, .if_icmp .gt 39, 3), (77, .ldc 107, 2), (79, .bipush 10, 2), (81, .iload_n 3, 1), (82, .imul, 1), (83, .aload_n 0, 1), (84, .getfield 16, 3), (87, .aload_n 0, 1), (88, .getfield 77, 3), (91, .iaload, 1), (92, .iadd, 1), (93, .bipush 48, 2), (95, .isub, 1), (96, .invokestatic 108, 3), (99, .istore_n 3, 1), (100, .aload_n 0, 1), (101, .dup, 1), (102, .getfield 77, 3), (105, .iconst 1, 1), (106, .iadd, 1), (107, .putfield 77, 3), (110, .goto (-72), 3), (113, .iload_n 3, 1), (114, .i2l, 1), (115, .iload_n 1, 1), (116, .i2l, 1), (117, .iload_n 2, 1), (118, .i2l, 1), (119, .invokestatic 114, 3), (122, .ifCond .ne 13, 3), (125, .aload_n 0, 1), (126, .bipush (-3), 2), (128, .aload_n 0, 1), (129, .getfield 104, 3), (132, .invokevirtual 96, 3), (135, .aload_n 0, 1), (136, .getfield 71, 3), (139, .ifCond .ne 7, 3), (142, .iload_n 3, 1), (143, .goto 4, 3), (146, .iconst 0, 1), (147, .ireturn, 1)]
theorem tX11_reads : Tb mX11_reads.2.1 lX11_reads := Tb.of (by decide +kernel)
def lX11_codes : List (Nat × Instr × Nat) := [(0, .aload_n 0, 1), (1, .getfield 71, 3), (4, .ifCond .eq 4, 3), (7, .return_, 1), (8, .bipush 56, 2), (10, .iconst 2, 1), (11, .aload_n 0, 1), (12, .getfield 13, 3), (15, .iconst 3, 1), (16, .iaload, 1), (17, .imul, 1), (18, .iadd, 1), (19, .istore_n 3, 1), (20, .aload_n 0, 1), (21, .getfield 13, 3), (24, .iload_n 3, 1), (25, .iload_n 1, 1), (26, .iastore, 1), (27, .aload_n 0, 1), (28, .getfield 13, 3), (31, .iload_n 3, 1), (32, .iconst 1, 1), (33, .iadd, 1), (34, .iload_n 2, 1), (35, .iastore, 1), (36, .aload_n 0, 1), (37, .getfield 13, 3), (40, .iconst 3, 1), (41, .dup2, 1), (42, .iaload, 1), (43, .iconst 1, 1), (44, .iadd, 1), (45, .iastore, 1), (46, .return_, 1)]
theorem tX11_codes : Tb mX11_codes.2.1 lX11_codes := Tb.of (by decide +kernel)
def lX11_sum : List (Nat × Instr × Nat) := [(0, .aload_n 0, 1), (1, .invokevirtual 118, 3), (4, .aload_n 0, 1), (5, .getfield 71, 3), (8, .ifCond .ne 67, 3), (11, .aload_n 0, 1), (12, .invokevirtual 83, 3), (15, .bipush 43, 2), (17, .if_icmp .eq 12, 3), (20, .aload_n 0, 1), (21, .invokevirtual 83, 3), (24, .bipush 45, 2), (26, .if_icmp .ne 49, 3), (29, .aload_n 0, 1), (30, .invokevirtual 83, 3), (33, .bipush 43, 2), (35, .if_icmp .ne 7, 3), (38, .iconst 1, 1), (39, .goto 4, 3), (42, .iconst 0, 1), (43, .istore_n 1, 1), (44, .aload_n 0, 1), (45, .dup, 1), (46, .getfield 77, 3), (49, .iconst 1, 1), (50, .iadd, 1), (51, .putfield 77, 3), (54, .aload_n 0, 1), (55, .invokevirtual 118, 3), (58, .aload_n 0, 1), (59, .iload_n 1, 1), (60, .ifCond .eq 7, 3), (63, .iconst 1, 1), (64, .goto 4, 3), (67, .iconst 2, 1), (68, .iconst 0, 1), (69, .invokevirtual 121, 3), (72, .goto (-68), 3), (75, .return_, 1)]
theorem tX11_sum : Tb mX11_sum.2.1 lX11_sum := Tb.of (by decide +kernel)
def lX11_term : List (Nat × Instr × Nat) := [(0, .aload_n 0, 1), (1, .invokevirtual 124, 3), (4, .aload_n 0, 1), (5, .getfield 71, 3), (8, .ifCond .ne 67, 3), (11, .aload_n 0, 1), (12, .invokevirtual 83, 3), (15, .bipush 42, 2), (17, .if_icmp .eq 12, 3), (20, .aload_n 0, 1), (21, .invokevirtual 83, 3), (24, .bipush 47, 2), (26, .if_icmp .ne 49, 3), (29, .aload_n 0, 1), (30, .invokevirtual 83, 3), (33, .bipush 42, 2), (35, .if_icmp .ne 7, 3), (38, .iconst 1, 1), (39, .goto 4, 3), (42, .iconst 0, 1), (43, .istore_n 1, 1), (44, .aload_n 0, 1), (45, .dup, 1), (46, .getfield 77, 3), (49, .iconst 1, 1), (50, .iadd, 1), (51, .putfield 77, 3), (54, .aload_n 0, 1), (55, .invokevirtual 124, 3), (58, .aload_n 0, 1), (59, .iload_n 1, 1), (60, .ifCond .eq 7, 3), (63, .iconst 3, 1), (64, .goto 4, 3), (67, .iconst 4, 1), (68, .iconst 0, 1), (69, .invokevirtual 121, 3), (72, .goto (-68), 3), (75, .return_, 1)]
theorem tX11_term : Tb mX11_term.2.1 lX11_term := Tb.of (by decide +kernel)
def lX11_factor : List (Nat × Instr × Nat) := [(0, .aload_n 0, 1), (1, .getfield 71, 3), (4, .ifCond .eq 4, 3), (7, .return_, 1), (8, .aload_n 0, 1), (9, .invokevirtual 83, 3), (12, .bipush 40, 2), (14, .if_icmp .ne 63, 3), (17, .aload_n 0, 1), (18, .getfield 127, 3), (21, .iconst 4, 1), (22, .if_icmp .ne 14, 3), (25, .aload_n 0, 1), (26, .bipush (-5), 2), (28, .aload_n 0, 1), (29, .getfield 77, 3), (32, .invokevirtual 96, 3), (35, .return_, 1), (36, .aload_n 0, 1), (37, .dup, 1), (38, .getfield 127, 3), (41, .iconst 1, 1), (42, .iadd, 1), (43, .putfield 127, 3), (46, .aload_n 0, 1), (47, .dup, 1), (48, .getfield 77, 3), (51, .iconst 1, 1), (52, .iadd, 1), (53, .putfield 77, 3), (56, .aload_n 0, 1), (57, .invokevirtual 130, 3), (60, .aload_n 0, 1), (61, .bipush 41, 2), (63, .invokevirtual 133, 3), (66, .aload_n 0, 1), (67, .dup, 1), (68, .getfield 127, 3), (71, .iconst 1, 1), (72, .isub, 1), (73, .putfield 127, 3), (76, .return_, 1), (77, .aload_n 0, 1), (78, .invokevirtual 100, 3), (81, .ifCond .eq 17, 3), (84, .aload_n 0, 1), (85, .iconst 0, 1), (86, .aload_n 0, 1), (87, .iconst 0, 1), (88, .sipush 9999, 3), (91, .invokevirtual 137, 3), (94, .invokevirtual 121, 3), (97, .return_, 1), (98, .aload_n 0, 1), (99, .ldc 140, 2), (101, .invokevirtual 142, 3), (104, .ifCond .eq 7, 3), (107, .iconst 0, 1), (108, .goto 30, 3), (111, .aload_n 0, 1), (112, .ldc 146, 2), (114, .invokevirtual 142, 3), (117, .ifCond .eq 7, 3), (120, .iconst 1, 1), (121, .goto 17, 3), (124, .aload_n 0, 1), (125, .ldc 148, 2), (127, .invokevirtual 142, 3), (130, .ifCond .eq 7, 3), (133, .iconst 2, 1), (134, .goto 4, 3), (137, .iconst (-1), 1), (138, .istore_n 1, 1), (139, .iload_n 1, 1), (140, .iconst (-1), 1), (141, .if_icmp .ne 16, 3), (144, .aload_n 0, 1), (145, .bipush (-2), 2), (147, .aload_n 0, 1), (148, .getfield 77, 3), (151, .invokevirtual 96, 3), (154, .goto 9, 3), (157, .aload_n 0, 1), (158, .iconst 5, 1), (159, .iload_n 1, 1), (160, .invokevirtual 121, 3), (163, .return_, 1)]
theorem tX11_factor : Tb mX11_factor.2.1 lX11_factor := Tb.of (by decide +kernel)
def lX11_readsVertex : List (Nat × Instr × Nat) := [(0, .aload_n 0, 1), (1, .iconst 0, 1), (2, .aload_n 0, 1), (3, .getfield 13, 3), (6, .iconst 0, 1), (7, .iaload, 1), (8, .iconst 1, 1), (9, .isub, 1), (10, .invokevirtual 137, 3), (13, .ireturn, 1)]
theorem tX11_readsVertex : Tb mX11_readsVertex.2.1 lX11_readsVertex := Tb.of (by decide +kernel)
def lX11_edgeIn : List (Nat × Instr × Nat) := [(0, .iconst 0, 1), (1, .istore 5, 2), (3, .iload 5, 2), (5, .iload_n 2, 1), (6, .if_icmp .ge 48, 3), (9, .aload_n 0, 1), (10, .iload_n 1, 1), (11, .iconst 3, 1), (12, .iload 5, 2), (14, .imul, 1), (15, .iadd, 1), (16, .iaload, 1), (17, .iload_n 3, 1), (18, .iload 4, 2), (20, .invokestatic 108, 3), (23, .if_icmp .ne 25, 3), (26, .aload_n 0, 1), (27, .iload_n 1, 1), (28, .iconst 3, 1), (29, .iload 5, 2), (31, .imul, 1), (32, .iadd, 1), (33, .iconst 1, 1), (34, .iadd, 1), (35, .iaload, 1), (36, .iload_n 3, 1), (37, .iload 4, 2), (39, .invokestatic 150, 3), (42, .if_icmp .ne 6, 3), (45, .iload 5, 2), (47, .ireturn, 1), (48, .iinc 5 1, 3), (51, .goto (-48), 3), (54, .iconst (-1), 1), (55, .ireturn, 1)]
theorem tX11_edgeIn : Tb mX11_edgeIn.2.1 lX11_edgeIn := Tb.of (by decide +kernel)
def lX11_edgeLine : List (Nat × Instr × Nat) := [(0, .aload_n 0, 1), (1, .invokevirtual 153, 3), (4, .istore_n 1, 1), (5, .aload_n 0, 1), (6, .invokevirtual 153, 3), (9, .istore_n 2, 1), (10, .aload_n 0, 1), (11, .getfield 71, 3), (14, .ifCond .ne 38, 3), (17, .iload_n 1, 1), (18, .iload_n 2, 1), (19, .if_icmp .eq 23, 3), (22, .aload_n 0, 1), (23, .getfield 13, 3), (26, .iconst 4, 1), (27, .aload_n 0, 1), (28, .getfield 13, 3), (31, .iconst 1, 1), (32, .iaload, 1), (33, .iload_n 1, 1), (34, .iload_n 2, 1), (35, .invokestatic 156, 3), (38, .iconst (-1), 1), (39, .if_icmp .eq 13, 3), (42, .aload_n 0, 1), (43, .bipush (-4), 2), (45, .aload_n 0, 1), (46, .getfield 104, 3), (49, .invokevirtual 96, 3), (52, .aload_n 0, 1), (53, .iconst 1, 1), (54, .bipush 9, 2), (56, .invokevirtual 137, 3), (59, .istore_n 3, 1), (60, .aload_n 0, 1), (61, .getfield 71, 3), (64, .ifCond .eq 4, 3), (67, .return_, 1), (68, .iconst 4, 1), (69, .iconst 3, 1), (70, .aload_n 0, 1), (71, .getfield 13, 3), (74, .iconst 1, 1), (75, .iaload, 1), (76, .imul, 1), (77, .iadd, 1), (78, .istore 4, 2), (80, .aload_n 0, 1), (81, .getfield 13, 3), (84, .iload 4, 2), (86, .iload_n 1, 1), (87, .iload_n 2, 1), (88, .invokestatic 108, 3), (91, .iastore, 1), (92, .aload_n 0, 1), (93, .getfield 13, 3), (96, .iload 4, 2), (98, .iconst 1, 1), (99, .iadd, 1), (100, .iload_n 1, 1), (101, .iload_n 2, 1), (102, .invokestatic 150, 3), (105, .iastore, 1), (106, .aload_n 0, 1), (107, .getfield 13, 3), (110, .iload 4, 2), (112, .iconst 2, 1), (113, .iadd, 1), (114, .iload_n 3, 1), (115, .iastore, 1), (116, .aload_n 0, 1), (117, .getfield 13, 3), (120, .iconst 1, 1), (121, .dup2, 1), (122, .iaload, 1), (123, .iconst 1, 1), (124, .iadd, 1), (125, .iastore, 1), (126, .return_, 1)]
theorem tX11_edgeLine : Tb mX11_edgeLine.2.1 lX11_edgeLine := Tb.of (by decide +kernel)
def lX11_absorbLine : List (Nat × Instr × Nat) := [(0, .aload_n 0, 1), (1, .invokevirtual 153, 3), (4, .istore_n 1, 1), (5, .aload_n 0, 1), (6, .getfield 71, 3), (9, .ifCond .ne 27, 3), (12, .aload_n 0, 1), (13, .getfield 13, 3), (16, .iconst 2, 1), (17, .iaload, 1), (18, .iload_n 1, 1), (19, .ishr, 1), (20, .iconst 1, 1), (21, .iand, 1), (22, .iconst 1, 1), (23, .if_icmp .ne 13, 3), (26, .aload_n 0, 1), (27, .bipush (-4), 2), (29, .aload_n 0, 1), (30, .getfield 104, 3), (33, .invokevirtual 96, 3), (36, .aload_n 0, 1), (37, .getfield 71, 3), (40, .ifCond .ne 15, 3), (43, .aload_n 0, 1), (44, .getfield 13, 3), (47, .iconst 2, 1), (48, .dup2, 1), (49, .iaload, 1), (50, .iconst 1, 1), (51, .iload_n 1, 1), (52, .ishl, 1), (53, .ior, 1), (54, .iastore, 1), (55, .return_, 1)]
theorem tX11_absorbLine : Tb mX11_absorbLine.2.1 lX11_absorbLine := Tb.of (by decide +kernel)
def lX11_relabels : List (Nat × Instr × Nat) := [(0, .iconst 0, 1), (1, .istore 5, 2), (3, .iload 5, 2), (5, .iload_n 2, 1), (6, .if_icmp .ge 27, 3), (9, .aload_n 0, 1), (10, .iload_n 1, 1), (11, .iload 5, 2), (13, .iadd, 1), (14, .iaload, 1), (15, .iload_n 3, 1), (16, .if_icmp .ne 11, 3), (19, .aload_n 0, 1), (20, .iload_n 1, 1), (21, .iload 5, 2), (23, .iadd, 1), (24, .iload 4, 2), (26, .iastore, 1), (27, .iinc 5 1, 3), (30, .goto (-27), 3), (33, .return_, 1)]
theorem tX11_relabels : Tb mX11_relabels.2.1 lX11_relabels := Tb.of (by decide +kernel)
def lX11_joinLine : List (Nat × Instr × Nat) := [(0, .aload_n 0, 1), (1, .invokevirtual 153, 3), (4, .istore_n 1, 1), (5, .aload_n 0, 1), (6, .invokevirtual 153, 3), (9, .istore_n 2, 1), (10, .aload_n 0, 1), (11, .getfield 71, 3), (14, .ifCond .ne 36, 3), (17, .aload_n 0, 1), (18, .getfield 13, 3), (21, .bipush 49, 2), (23, .aload_n 0, 1), (24, .getfield 13, 3), (27, .iconst 0, 1), (28, .iaload, 1), (29, .aload_n 0, 1), (30, .getfield 13, 3), (33, .bipush 49, 2), (35, .iload_n 2, 1), (36, .iadd, 1), (37, .iaload, 1), (38, .aload_n 0, 1), (39, .getfield 13, 3), (42, .bipush 49, 2), (44, .iload_n 1, 1), (45, .iadd, 1), (46, .iaload, 1), (47, .invokestatic 160, 3), (50, .return_, 1)]
theorem tX11_joinLine : Tb mX11_joinLine.2.1 lX11_joinLine := Tb.of (by decide +kernel)
def lX11_statement : List (Nat × Instr × Nat) := [(0, .aload_n 0, 1), (1, .invokevirtual 83, 3), (4, .pop, 1), (5, .aload_n 0, 1), (6, .getfield 77, 3), (9, .istore_n 1, 1), (10, .aload_n 0, 1), (11, .ldc 164, 2), (13, .invokevirtual 142, 3), (16, .ifCond .eq 10, 3), (19, .aload_n 0, 1), (20, .invokevirtual 166, 3), (23, .goto 84, 3), (26, .aload_n 0, 1), (27, .ldc 169, 2), (29, .invokevirtual 142, 3), (32, .ifCond .eq 10, 3), (35, .aload_n 0, 1), (36, .invokevirtual 171, 3), (39, .goto 68, 3), (42, .aload_n 0, 1), (43, .ldc 174, 2), (45, .invokevirtual 142, 3), (48, .ifCond .eq 10, 3), (51, .aload_n 0, 1), (52, .invokevirtual 176, 3), (55, .goto 52, 3), (58, .aload_n 0, 1), (59, .ldc 179, 2), (61, .invokevirtual 142, 3), (64, .ifCond .eq 36, 3), (67, .aload_n 0, 1), (68, .getfield 181, 3), (71, .ifCond .eq 10, 3), (74, .aload_n 0, 1), (75, .bipush (-2), 2), (77, .iload_n 1, 1), (78, .invokevirtual 96, 3), (81, .aload_n 0, 1), (82, .iconst 1, 1), (83, .putfield 181, 3), (86, .aload_n 0, 1), (87, .getfield 71, 3), (90, .ifCond .ne 17, 3), (93, .aload_n 0, 1), (94, .invokevirtual 130, 3), (97, .goto 10, 3), (100, .aload_n 0, 1), (101, .bipush (-2), 2), (103, .iload_n 1, 1), (104, .invokevirtual 96, 3), (107, .aload_n 0, 1), (108, .bipush 59, 2), (110, .invokevirtual 133, 3), (113, .return_, 1)]
theorem tX11_statement : Tb mX11_statement.2.1 lX11_statement := Tb.of (by decide +kernel)
def lX11_texts : List (Nat × Instr × Nat) := [(0, .iconst 0, 1), (1, .istore_n 1, 1), (2, .iload_n 1, 1), (3, .sipush 1240, 3), (6, .if_icmp .ge 16, 3), (9, .aload_n 0, 1), (10, .getfield 13, 3), (13, .iload_n 1, 1), (14, .iconst 0, 1), (15, .iastore, 1), (16, .iinc 1 1, 3), (19, .goto (-17), 3), (22, .iconst 0, 1), (23, .istore_n 1, 1), (24, .iload_n 1, 1), (25, .bipush 6, 2), (27, .if_icmp .ge 19, 3), (30, .aload_n 0, 1), (31, .getfield 13, 3), (34, .bipush 49, 2), (36, .iload_n 1, 1), (37, .iadd, 1), (38, .iload_n 1, 1), (39, .iastore, 1), (40, .iinc 1 1, 3), (43, .goto (-19), 3), (46, .aload_n 0, 1), (47, .iconst 0, 1), (48, .putfield 77, 3), (51, .aload_n 0, 1), (52, .iconst 0, 1), (53, .putfield 71, 3), (56, .aload_n 0, 1), (57, .iconst 0, 1), (58, .putfield 127, 3), (61, .aload_n 0, 1), (62, .iconst 0, 1), (63, .putfield 181, 3), (66, .aload_n 0, 1), (67, .ldc 185, 2), (69, .invokevirtual 142, 3), (72, .ifCond .ne 13, 3), (75, .aload_n 0, 1), (76, .bipush (-2), 2), (78, .aload_n 0, 1), (79, .getfield 77, 3), (82, .invokevirtual 96, 3), (85, .aload_n 0, 1), (86, .getfield 13, 3), (89, .iconst 0, 1), (90, .aload_n 0, 1), (91, .iconst 2, 1), (92, .bipush 6, 2), (94, .invokevirtual 137, 3), (97, .iastore, 1), (98, .aload_n 0, 1), (99, .bipush 59, 2), (101, .invokevirtual 133, 3), (104, .aload_n 0, 1), (105, .getfield 71, 3), (108, .ifCond .ne 18, 3), (111, .aload_n 0, 1), (112, .invokevirtual 83, 3), (115, .iconst (-1), 1), (116, .if_icmp .eq 10, 3), (119, .aload_n 0, 1), (120, .invokevirtual 187, 3), (123, .goto (-19), 3), (126, .return_, 1)]
theorem tX11_texts : Tb mX11_texts.2.1 lX11_texts := Tb.of (by decide +kernel)
def lX11_load : List (Nat × Instr × Nat) := [(0, .aload_n 0, 1), (1, .iconst 0, 1), (2, .putfield 55, 3), (5, .aload_n 0, 1), (6, .iload_n 1, 1), (7, .i2l, 1), (8, .lconst 0, 1), (9, .aload_n 0, 1), (10, .getfield 68, 3), (13, .i2l, 1), (14, .invokestatic 114, 3), (17, .iconst 1, 1), (18, .invokevirtual 190, 3), (21, .ifCond .ne 5, 3), (24, .iconst 0, 1), (25, .ireturn, 1), (26, .aload_n 0, 1), (27, .iload_n 1, 1), (28, .putfield 80, 3), (31, .aload_n 0, 1), (32, .iconst 0, 1), (33, .putfield 68, 3), (36, .aload_n 0, 1), (37, .iconst (-1), 1), (38, .putfield 19, 3), (41, .aload_n 0, 1), (42, .invokevirtual 194, 3), (45, .aload_n 0, 1), (46, .getfield 71, 3), (49, .ifCond .eq 16, 3), (52, .aload_n 0, 1), (53, .aload_n 0, 1), (54, .getfield 74, 3), (57, .putfield 19, 3), (60, .aload_n 0, 1), (61, .getfield 71, 3), (64, .ireturn, 1), (65, .aload_n 0, 1), (66, .invokevirtual 197, 3), (69, .iconst 0, 1), (70, .istore_n 2, 1), (71, .iload_n 2, 1), (72, .sipush 1240, 3), (75, .if_icmp .ge 20, 3), (78, .aload_n 0, 1), (79, .iload_n 2, 1), (80, .aload_n 0, 1), (81, .getfield 13, 3), (84, .iload_n 2, 1), (85, .iaload, 1), (86, .invokevirtual 200, 3), (89, .iinc 2 1, 3), (92, .goto (-21), 3), (95, .aload_n 0, 1), (96, .invokevirtual 203, 3), (99, .aload_n 0, 1), (100, .iconst 1, 1), (101, .invokevirtual 61, 3), (104, .ireturn, 1)]
theorem tX11_load : Tb mX11_load.2.1 lX11_load := Tb.of (by decide +kernel)
def lX11_errorOffset : List (Nat × Instr × Nat) := [(0, .aload_n 0, 1), (1, .iconst 0, 1), (2, .putfield 55, 3), (5, .aload_n 0, 1), (6, .getfield 19, 3), (9, .ireturn, 1)]
theorem tX11_errorOffset : Tb mX11_errorOffset.2.1 lX11_errorOffset := Tb.of (by decide +kernel)
def lX11_within : List (Nat × Instr × Nat) := [(0, .lload_n 0, 1), (1, .lload_n 2, 1), (2, .lneg, 1), (3, .lcmp, 1), (4, .ifCond .ge 8, 3), (7, .lload_n 2, 1), (8, .lneg, 1), (9, .goto 14, 3), (12, .lload_n 0, 1), (13, .lload_n 2, 1), (14, .lcmp, 1), (15, .ifCond .le 7, 3), (18, .lload_n 2, 1), (19, .goto 4, 3), (22, .lload_n 0, 1), (23, .lreturn, 1)]
theorem tX11_within : Tb mX11_within.2.1 lX11_within := Tb.of (by decide +kernel)
def lX11_costOf : List (Nat × Instr × Nat) := [(0, .aload_n 0, 1), (1, .iconst 3, 1), (2, .invokevirtual 61, 3), (5, .ifCond .ne 5, 3), (8, .iconst 1, 1), (9, .ireturn, 1), (10, .iconst 0, 1), (11, .istore 4, 2), (13, .iconst 0, 1), (14, .istore 5, 2), (16, .iload 5, 2), (18, .aload_n 0, 1), (19, .iconst 3, 1), (20, .invokevirtual 61, 3), (23, .if_icmp .ge 191, 3), (26, .aload_n 0, 1), (27, .bipush 56, 2), (29, .iconst 2, 1), (30, .iload 5, 2), (32, .imul, 1), (33, .iadd, 1), (34, .invokevirtual 61, 3), (37, .istore 6, 2), (39, .aload_n 0, 1), (40, .bipush 56, 2), (42, .iconst 2, 1), (43, .iload 5, 2), (45, .imul, 1), (46, .iadd, 1), (47, .iconst 1, 1), (48, .iadd, 1), (49, .invokevirtual 61, 3), (52, .istore 7, 2), (54, .iload 6, 2), (56, .ifCond .eq 9, 3), (59, .iload 6, 2), (61, .iconst 5, 1), (62, .if_icmp .ne 50, 3), (65, .aload_n 0, 1), (66, .getfield 32, 3), (69, .iload 4, 2), (71, .iload 6, 2), (73, .ifCond .ne 9, 3), (76, .iload 7, 2), (78, .i2l, 1), (79, .goto 26, 3), (82, .iload 7, 2), (84, .ifCond .ne 8, 3), (87, .iload_n 1, 1), (88, .i2l, 1), (89, .goto 16, 3), (92, .iload 7, 2), (94, .iconst 1, 1), (95, .if_icmp .ne 8, 3), (98, .iload_n 2, 1), (99, .i2l, 1), (100, .goto 5, 3), (103, .iload_n 3, 1), (104, .i2l, 1), (105, .lastore, 1), (106, .iinc 4 1, 3), (109, .goto 99, 3), (112, .iinc 4 (-1), 3), (115, .aload_n 0, 1), (116, .getfield 32, 3), (119, .iload 4, 2), (121, .iconst 1, 1), (122, .isub, 1), (123, .laload, 1), (124, .lstore 8, 2), (126, .aload_n 0, 1), (127, .getfield 32, 3), (130, .iload 4, 2), (132, .laload, 1), (133, .lstore 10, 2), (135, .aload_n 0, 1), (136, .getfield 32, 3), (139, .iload 4, 2), (141, .iconst 1, 1), (142, .isub, 1), (143, .iload 6, 2), (145, .iconst 1, 1), (146, .if_icmp .ne 11, 3), (149, .lload 8, 2), (151, .lload 10, 2), (153, .ladd, 1), (154, .goto 47, 3), (157, .iload 6, 2), (159, .iconst 2, 1), (160, .if_icmp .ne 11, 3), (163, .lload 8, 2), (165, .lload 10, 2), (167, .lsub, 1), (168, .goto 33, 3), (171, .iload 6, 2), (173, .iconst 3, 1), (174, .if_icmp .ne 11, 3), (177, .lload 8, 2), (179, .lload 10, 2), (181, .lmul, 1), (182, .goto 19, 3), (185, .lload 10, 2), (187, .lconst 0, 1), (188, .lcmp, 1), (189, .ifCond .ne 7, 3), (192, .lconst 0, 1), (193, .goto 8, 3), (196, .lload 8, 2), (198, .lload 10, 2), (200, .ldiv, 1), (201, .ldc2_w 206, 3), (204, .invokestatic 208, 3), (207, .lastore, 1), (208, .iinc 5 1, 3), (211, .goto (-195), 3), (214, .aload_n 0, 1), (215, .getfield 32, 3), (218, .iconst 0, 1), (219, .laload, 1), (220, .lconst 0, 1), (221, .lcmp, 1), (222, .ifCond .ge 7, 3), (225, .lconst 0, 1), (226, .goto 28, 3), (229, .aload_n 0, 1), (230, .getfield 32, 3), (233, .iconst 0, 1), (234, .laload, 1), (235, .ldc2_w 212, 3), (238, .lcmp, 1), (239, .ifCond .le 9, 3), (242, .ldc2_w 212, 3), (245, .goto 9, 3), (248, .aload_n 0, 1), (249, .getfield 32, 3), (252, .iconst 0, 1), (253, .laload, 1), (254, .l2i, 1), (255, .ireturn, 1)]
theorem tX11_costOf : Tb mX11_costOf.2.1 lX11_costOf := Tb.of (by decide +kernel)
def lX11_count : List (Nat × Instr × Nat) := [(0, .aload_n 0, 1), (1, .iconst 0, 1), (2, .invokevirtual 61, 3), (5, .ireturn, 1)]
theorem tX11_count : Tb mX11_count.2.1 lX11_count := Tb.of (by decide +kernel)
def lX11_lays : List (Nat × Instr × Nat) := [(0, .iconst 0, 1), (1, .istore_n 1, 1), (2, .iload_n 1, 1), (3, .bipush 36, 2), (5, .if_icmp .ge 23, 3), (8, .aload_n 0, 1), (9, .getfield 23, 3), (12, .iload_n 1, 1), (13, .iconst 0, 1), (14, .iastore, 1), (15, .aload_n 0, 1), (16, .getfield 26, 3), (19, .iload_n 1, 1), (20, .iconst 0, 1), (21, .iastore, 1), (22, .iinc 1 1, 3), (25, .goto (-23), 3), (28, .iconst 0, 1), (29, .istore_n 1, 1), (30, .iload_n 1, 1), (31, .bipush 6, 2), (33, .if_icmp .ge 16, 3), (36, .aload_n 0, 1), (37, .getfield 29, 3), (40, .iload_n 1, 1), (41, .iconst 0, 1), (42, .iastore, 1), (43, .iinc 1 1, 3), (46, .goto (-16), 3), (49, .iconst 0, 1), (50, .istore_n 1, 1), (51, .iload_n 1, 1), (52, .aload_n 0, 1), (53, .iconst 1, 1), (54, .invokevirtual 61, 3), (57, .if_icmp .ge 130, 3), (60, .aload_n 0, 1), (61, .iconst 4, 1), (62, .iconst 3, 1), (63, .iload_n 1, 1), (64, .imul, 1), (65, .iadd, 1), (66, .invokevirtual 61, 3), (69, .istore_n 2, 1), (70, .aload_n 0, 1), (71, .iconst 4, 1), (72, .iconst 3, 1), (73, .iload_n 1, 1), (74, .imul, 1), (75, .iadd, 1), (76, .iconst 1, 1), (77, .iadd, 1), (78, .invokevirtual 61, 3), (81, .istore_n 3, 1), (82, .aload_n 0, 1), (83, .iconst 4, 1), (84, .iconst 3, 1), (85, .iload_n 1, 1), (86, .imul, 1), (87, .iadd, 1), (88, .iconst 2, 1), (89, .iadd, 1), (90, .invokevirtual 61, 3), (93, .istore 4, 2), (95, .aload_n 0, 1), (96, .getfield 23, 3), (99, .bipush 6, 2), (101, .iload_n 2, 1), (102, .imul, 1), (103, .iload_n 3, 1), (104, .iadd, 1), (105, .iload 4, 2), (107, .iastore, 1), (108, .aload_n 0, 1), (109, .getfield 23, 3), (112, .bipush 6, 2), (114, .iload_n 3, 1), (115, .imul, 1), (116, .iload_n 2, 1), (117, .iadd, 1), (118, .iload 4, 2), (120, .iastore, 1), (121, .aload_n 0, 1), (122, .getfield 26, 3), (125, .bipush 6, 2), (127, .iload_n 2, 1), (128, .imul, 1), (129, .iload_n 3, 1), (130, .iadd, 1), (131, .aload_n 0, 1), (132, .iload 4, 2), (134, .iload_n 2, 1), (135, .iload_n 3, 1), (136, .invokevirtual 214, 3), (139, .iastore, 1), (140, .aload_n 0, 1), (141, .getfield 26, 3), (144, .bipush 6, 2), (146, .iload_n 3, 1), (147, .imul, 1), (148, .iload_n 2, 1), (149, .iadd, 1), (150, .aload_n 0, 1), (151, .iload 4, 2), (153, .iload_n 3, 1), (154, .iload_n 2, 1), (155, .invokevirtual 214, 3), (158, .iastore, 1), (159, .aload_n 0, 1), (160, .getfield 29, 3), (163, .iload_n 2, 1), (164, .dup2, 1), (165, .iaload, 1), (166, .iload 4, 2), (168, .iadd, 1), (169, .iastore, 1), (170, .aload_n 0, 1), (171, .getfield 29, 3), (174, .iload_n 3, 1), (175, .dup2, 1), (176, .iaload, 1), (177, .iload 4, 2), (179, .iadd, 1), (180, .iastore, 1), (181, .iinc 1 1, 3), (184, .goto (-133), 3), (187, .return_, 1)]
theorem tX11_lays : Tb mX11_lays.2.1 lX11_lays := Tb.of (by decide +kernel)
def lX11_has : List (Nat × Instr × Nat) := [(0, .iload_n 0, 1), (1, .iload_n 1, 1), (2, .ishr, 1), (3, .iconst 1, 1), (4, .iand, 1), (5, .iconst 1, 1), (6, .if_icmp .ne 7, 3), (9, .iconst 1, 1), (10, .goto 4, 3), (13, .iconst 0, 1), (14, .ireturn, 1)]
theorem tX11_has : Tb mX11_has.2.1 lX11_has := Tb.of (by decide +kernel)
def lX11_reachedFrom : List (Nat × Instr × Nat) := [(0, .iconst 1, 1), (1, .iload_n 1, 1), (2, .ishl, 1), (3, .istore_n 2, 1), (4, .iconst 0, 1), (5, .istore_n 3, 1), (6, .iload_n 3, 1), (7, .bipush 6, 2), (9, .if_icmp .ge 77, 3), (12, .iconst 0, 1), (13, .istore 4, 2), (15, .iload 4, 2), (17, .aload_n 0, 1), (18, .invokevirtual 218, 3), (21, .if_icmp .ge 59, 3), (24, .iconst 0, 1), (25, .istore 5, 2), (27, .iload 5, 2), (29, .aload_n 0, 1), (30, .invokevirtual 218, 3), (33, .if_icmp .ge 41, 3), (36, .iload_n 2, 1), (37, .iload 4, 2), (39, .invokestatic 221, 3), (42, .ifCond .eq 26, 3), (45, .aload_n 0, 1), (46, .getfield 23, 3), (49, .bipush 6, 2), (51, .iload 4, 2), (53, .imul, 1), (54, .iload 5, 2), (56, .iadd, 1), (57, .iaload, 1), (58, .ifCond .le 10, 3), (61, .iload_n 2, 1), (62, .iconst 1, 1), (63, .iload 5, 2), (65, .ishl, 1), (66, .ior, 1), (67, .istore_n 2, 1), (68, .iinc 5 1, 3), (71, .goto (-44), 3), (74, .iinc 4 1, 3), (77, .goto (-62), 3), (80, .iinc 3 1, 3), (83, .goto (-77), 3), (86, .iload_n 2, 1), (87, .ireturn, 1)]
theorem tX11_reachedFrom : Tb mX11_reachedFrom.2.1 lX11_reachedFrom := Tb.of (by decide +kernel)
def lX11_divisor : List (Nat × Instr × Nat) := [(0, .lload_n 0, 1), (1, .lconst 0, 1), (2, .lcmp, 1), (3, .ifCond .ge 8, 3), (6, .lload_n 0, 1), (7, .lneg, 1), (8, .goto 4, 3), (11, .lload_n 0, 1), (12, .lstore 4, 2), (14, .lload_n 2, 1), (15, .lconst 0, 1), (16, .lcmp, 1), (17, .ifCond .ge 8, 3), (20, .lload_n 2, 1), (21, .lneg, 1), (22, .goto 4, 3), (25, .lload_n 2, 1), (26, .lstore 6, 2), (28, .lload 6, 2), (30, .lconst 0, 1), (31, .lcmp, 1), (32, .ifCond .eq 21, 3), (35, .lload 4, 2), (37, .lload 6, 2), (39, .lrem, 1), (40, .lstore 8, 2), (42, .lload 6, 2), (44, .lstore 4, 2), (46, .lload 8, 2), (48, .lstore 6, 2), (50, .goto (-22), 3), (53, .lload 4, 2), (55, .lreturn, 1)]
theorem tX11_divisor : Tb mX11_divisor.2.1 lX11_divisor := Tb.of (by decide +kernel)
def lX11_fraction : List (Nat × Instr × Nat) := [(0, .lload_n 1, 1), (1, .lload_n 3, 1), (2, .invokestatic 225, 3), (5, .lstore 5, 2), (7, .lload 5, 2), (9, .lconst 0, 1), (10, .lcmp, 1), (11, .ifCond .ne 7, 3), (14, .lconst 1, 1), (15, .goto 17, 3), (18, .lload_n 3, 1), (19, .lconst 0, 1), (20, .lcmp, 1), (21, .ifCond .ge 9, 3), (24, .lload 5, 2), (26, .lneg, 1), (27, .goto 5, 3), (30, .lload 5, 2), (32, .lstore 5, 2), (34, .aload_n 0, 1), (35, .lload_n 1, 1), (36, .lload 5, 2), (38, .ldiv, 1), (39, .putfield 228, 3), (42, .aload_n 0, 1), (43, .lload_n 3, 1), (44, .lload 5, 2), (46, .ldiv, 1), (47, .putfield 232, 3), (50, .return_, 1)]
theorem tX11_fraction : Tb mX11_fraction.2.1 lX11_fraction := Tb.of (by decide +kernel)
def lX11_told : List (Nat × Instr × Nat) := [(0, .iload_n 1, 1), (1, .ifCond .eq 10, 3), (4, .aload_n 0, 1), (5, .getfield 232, 3), (8, .goto 7, 3), (11, .aload_n 0, 1), (12, .getfield 228, 3), (15, .lreturn, 1)]
theorem tX11_told : Tb mX11_told.2.1 lX11_told := Tb.of (by decide +kernel)
def lX11_determinant : List (Nat × Instr × Nat) := [(0, .lconst 1, 1), (1, .lstore_n 2, 1), (2, .lconst 1, 1), (3, .lstore 4, 2), (5, .iconst 0, 1), (6, .istore 6, 2), (8, .iload 6, 2), (10, .iload_n 1, 1), (11, .if_icmp .ge 265, 3), (14, .iload 6, 2), (16, .istore 7, 2), (18, .iload 7, 2), (20, .iload_n 1, 1), (21, .if_icmp .ge 27, 3), (24, .aload_n 0, 1), (25, .getfield 39, 3), (28, .bipush 6, 2), (30, .iload 7, 2), (32, .imul, 1), (33, .iload 6, 2), (35, .iadd, 1), (36, .laload, 1), (37, .lconst 0, 1), (38, .lcmp, 1), (39, .ifCond .ne 9, 3), (42, .iinc 7 1, 3), (45, .goto (-27), 3), (48, .iload 7, 2), (50, .iload_n 1, 1), (51, .if_icmp .ne 5, 3), (54, .lconst 0, 1), (55, .lreturn, 1), (56, .iconst 0, 1), (57, .istore 8, 2), (59, .iload 8, 2), (61, .iload_n 1, 1), (62, .if_icmp .ge 72, 3), (65, .iload 7, 2), (67, .iload 6, 2), (69, .if_icmp .eq 65, 3), (72, .aload_n 0, 1), (73, .getfield 39, 3), (76, .bipush 6, 2), (78, .iload 7, 2), (80, .imul, 1), (81, .iload 8, 2), (83, .iadd, 1), (84, .laload, 1), (85, .lstore 9, 2), (87, .aload_n 0, 1), (88, .getfield 39, 3), (91, .bipush 6, 2), (93, .iload 7, 2), (95, .imul, 1), (96, .iload 8, 2), (98, .iadd, 1), (99, .aload_n 0, 1), (100, .getfield 39, 3), (103, .bipush 6, 2), (105, .iload 6, 2), (107, .imul, 1), (108, .iload 8, 2), (110, .iadd, 1), (111, .laload, 1), (112, .lastore, 1), (113, .aload_n 0, 1), (114, .getfield 39, 3), (117, .bipush 6, 2), (119, .iload 6, 2), (121, .imul, 1), (122, .iload 8, 2), (124, .iadd, 1), (125, .lload 9, 2), (127, .lastore, 1), (128, .iinc 8 1, 3), (131, .goto (-72), 3), (134, .iload 7, 2), (136, .iload 6, 2), (138, .if_icmp .ne 7, 3), (141, .lload_n 2, 1), (142, .goto 5, 3), (145, .lload_n 2, 1), (146, .lneg, 1), (147, .lstore_n 2, 1), (148, .iload 6, 2), (150, .iconst 1, 1), (151, .iadd, 1), (152, .istore 8, 2), (154, .iload 8, 2), (156, .iload_n 1, 1), (157, .if_icmp .ge 98, 3), (160, .iload 6, 2), (162, .iconst 1, 1), (163, .iadd, 1), (164, .istore 9, 2), (166, .iload 9, 2), (168, .iload_n 1, 1), (169, .if_icmp .ge 80, 3), (172, .aload_n 0, 1), (173, .getfield 39, 3), (176, .bipush 6, 2), (178, .iload 8, 2), (180, .imul, 1), (181, .iload 9, 2), (183, .iadd, 1), (184, .aload_n 0, 1), (185, .getfield 39, 3), (188, .bipush 6, 2), (190, .iload 8, 2), (192, .imul, 1), (193, .iload 9, 2), (195, .iadd, 1), (196, .laload, 1), (197, .aload_n 0, 1), (198, .getfield 39, 3), (201, .bipush 6, 2), (203, .iload 6, 2), (205, .imul, 1), (206, .iload 6, 2), (208, .iadd, 1), (209, .laload, 1), (210, .lmul, 1), (211, .aload_n 0, 1), (212, .getfield 39, 3), (215, .bipush 6, 2), (217, .iload 8, 2), (219, .imul, 1), (220, .iload 6, 2), (222, .iadd, 1), (223, .laload, 1), (224, .aload_n 0, 1), (225, .getfield 39, 3), (228, .bipush 6, 2), (230, .iload 6, 2), (232, .imul, 1), (233, .iload 9, 2), (235, .iadd, 1), (236, .laload, 1), (237, .lmul, 1), (238, .lsub, 1), (239, .lload 4, 2), (241, .ldiv, 1), (242, .lastore, 1), (243, .iinc 9 1, 3), (246, .goto (-80), 3), (249, .iinc 8 1, 3), (252, .goto (-98), 3), (255, .aload_n 0, 1), (256, .getfield 39, 3), (259, .bipush 6, 2), (261, .iload 6, 2), (263, .imul, 1), (264, .iload 6, 2), (266, .iadd, 1), (267, .laload, 1), (268, .lstore 4, 2), (270, .iinc 6 1, 3), (273, .goto (-265), 3), (276, .lload_n 2, 1), (277, .lload 4, 2), (279, .lmul, 1), (280, .lreturn, 1)]
theorem tX11_determinant : Tb mX11_determinant.2.1 lX11_determinant := Tb.of (by decide +kernel)
def lX11_determinantWith : List (Nat × Instr × Nat) := [(0, .iconst 0, 1), (1, .istore_n 2, 1), (2, .iload_n 2, 1), (3, .aload_n 0, 1), (4, .getfield 235, 3), (7, .if_icmp .ge 57, 3), (10, .iconst 0, 1), (11, .istore_n 3, 1), (12, .iload_n 3, 1), (13, .aload_n 0, 1), (14, .getfield 235, 3), (17, .if_icmp .ge 41, 3), (20, .aload_n 0, 1), (21, .getfield 39, 3), (24, .bipush 6, 2), (26, .iload_n 2, 1), (27, .imul, 1), (28, .iload_n 3, 1), (29, .iadd, 1), (30, .aload_n 0, 1), (31, .getfield 36, 3), (34, .bipush 7, 2), (36, .iload_n 2, 1), (37, .imul, 1), (38, .iload_n 3, 1), (39, .iload_n 1, 1), (40, .if_icmp .ne 8, 3), (43, .bipush 6, 2), (45, .goto 4, 3), (48, .iload_n 3, 1), (49, .iadd, 1), (50, .laload, 1), (51, .lastore, 1), (52, .iinc 3 1, 3), (55, .goto (-43), 3), (58, .iinc 2 1, 3), (61, .goto (-59), 3), (64, .aload_n 0, 1), (65, .aload_n 0, 1), (66, .getfield 235, 3), (69, .invokevirtual 238, 3), (72, .lreturn, 1)]
theorem tX11_determinantWith : Tb mX11_determinantWith.2.1 lX11_determinantWith := Tb.of (by decide +kernel)
def lX11_begins : List (Nat × Instr × Nat) := [(0, .aload_n 0, 1), (1, .iconst 0, 1), (2, .putfield 235, 3), (5, .iconst 0, 1), (6, .istore_n 3, 1), (7, .iload_n 3, 1), (8, .aload_n 0, 1), (9, .invokevirtual 218, 3), (12, .if_icmp .ge 55, 3), (15, .aload_n 0, 1), (16, .getfield 42, 3), (19, .iload_n 3, 1), (20, .iconst (-1), 1), (21, .iastore, 1), (22, .iload_n 1, 1), (23, .iload_n 3, 1), (24, .invokestatic 221, 3), (27, .ifCond .eq 34, 3), (30, .iload_n 2, 1), (31, .iload_n 3, 1), (32, .invokestatic 221, 3), (35, .ifCond .eq 6, 3), (38, .goto 23, 3), (41, .aload_n 0, 1), (42, .getfield 42, 3), (45, .iload_n 3, 1), (46, .aload_n 0, 1), (47, .getfield 235, 3), (50, .iastore, 1), (51, .aload_n 0, 1), (52, .dup, 1), (53, .getfield 235, 3), (56, .iconst 1, 1), (57, .iadd, 1), (58, .putfield 235, 3), (61, .iinc 3 1, 3), (64, .goto (-57), 3), (67, .iconst 0, 1), (68, .istore_n 3, 1), (69, .iload_n 3, 1), (70, .bipush 42, 2), (72, .if_icmp .ge 16, 3), (75, .aload_n 0, 1), (76, .getfield 36, 3), (79, .iload_n 3, 1), (80, .lconst 0, 1), (81, .lastore, 1), (82, .iinc 3 1, 3), (85, .goto (-16), 3), (88, .iconst 0, 1), (89, .istore_n 3, 1), (90, .iload_n 3, 1), (91, .aload_n 0, 1), (92, .invokevirtual 218, 3), (95, .if_icmp .ge 103, 3), (98, .aload_n 0, 1), (99, .getfield 42, 3), (102, .iload_n 3, 1), (103, .iaload, 1), (104, .iconst (-1), 1), (105, .if_icmp .ne 6, 3), (108, .goto 84, 3), (111, .iconst 0, 1), (112, .istore 4, 2), (114, .iload 4, 2), (116, .aload_n 0, 1), (117, .invokevirtual 218, 3), (120, .if_icmp .ge 72, 3), (123, .aload_n 0, 1), (124, .getfield 42, 3), (127, .iload 4, 2), (129, .iaload, 1), (130, .iconst (-1), 1), (131, .if_icmp .eq 55, 3), (134, .aload_n 0, 1), (135, .getfield 36, 3), (138, .bipush 7, 2), (140, .aload_n 0, 1), (141, .getfield 42, 3), (144, .iload_n 3, 1), (145, .iaload, 1), (146, .imul, 1), (147, .aload_n 0, 1), (148, .getfield 42, 3), (151, .iload 4, 2), (153, .iaload, 1), (154, .iadd, 1), (155, .iload 4, 2), (157, .iload_n 3, 1), (158, .if_icmp .ne 13, 3), (161, .aload_n 0, 1), (162, .getfield 29, 3), (165, .iload_n 3, 1), (166, .iaload, 1), (167, .i2l, 1), (168, .goto 17, 3), (171, .aload_n 0, 1), (172, .getfield 23, 3), (175, .bipush 6, 2), (177, .iload_n 3, 1), (178, .imul, 1), (179, .iload 4, 2), (181, .iadd, 1), (182, .iaload, 1), (183, .ineg, 1), (184, .i2l, 1), (185, .lastore, 1), (186, .iinc 4 1, 3), (189, .goto (-75), 3), (192, .iinc 3 1, 3), (195, .goto (-105), 3), (198, .return_, 1)]
theorem tX11_begins : Tb mX11_begins.2.1 lX11_begins := Tb.of (by decide +kernel)
def lX11_further : List (Nat × Instr × Nat) := [(0, .aload_n 0, 1), (1, .getfield 42, 3), (4, .iload_n 1, 1), (5, .iaload, 1), (6, .iconst (-1), 1), (7, .if_icmp .eq 21, 3), (10, .aload_n 0, 1), (11, .getfield 36, 3), (14, .bipush 7, 2), (16, .aload_n 0, 1), (17, .getfield 42, 3), (20, .iload_n 1, 1), (21, .iaload, 1), (22, .imul, 1), (23, .bipush 6, 2), (25, .iadd, 1), (26, .lload_n 2, 1), (27, .lastore, 1), (28, .return_, 1)]
theorem tX11_further : Tb mX11_further.2.1 lX11_further := Tb.of (by decide +kernel)
def lX11_solves : List (Nat × Instr × Nat) := [(0, .aload_n 0, 1), (1, .aload_n 0, 1), (2, .aload_n 0, 1), (3, .getfield 42, 3), (6, .iload_n 1, 1), (7, .iaload, 1), (8, .invokevirtual 242, 3), (11, .aload_n 0, 1), (12, .iconst (-1), 1), (13, .invokevirtual 242, 3), (16, .invokevirtual 245, 3), (19, .return_, 1)]
theorem tX11_solves : Tb mX11_solves.2.1 lX11_solves := Tb.of (by decide +kernel)
def lX11_meanTo : List (Nat × Instr × Nat) := [(0, .iload_n 2, 1), (1, .iload_n 1, 1), (2, .invokestatic 221, 3), (5, .ifCond .eq 10, 3), (8, .aload_n 0, 1), (9, .lconst 0, 1), (10, .lconst 1, 1), (11, .invokevirtual 245, 3), (14, .return_, 1), (15, .aload_n 0, 1), (16, .aload_n 0, 1), (17, .iload_n 1, 1), (18, .invokevirtual 249, 3), (21, .iload_n 2, 1), (22, .invokevirtual 252, 3), (25, .iconst 0, 1), (26, .istore 4, 2), (28, .iload 4, 2), (30, .aload_n 0, 1), (31, .invokevirtual 218, 3), (34, .if_icmp .ge 93, 3), (37, .lconst 0, 1), (38, .lstore 5, 2), (40, .iconst 0, 1), (41, .istore 7, 2), (43, .iload 7, 2), (45, .aload_n 0, 1), (46, .invokevirtual 218, 3), (49, .if_icmp .ge 64, 3), (52, .lload 5, 2), (54, .iload_n 3, 1), (55, .ifCond .eq 35, 3), (58, .aload_n 0, 1), (59, .getfield 23, 3), (62, .bipush 6, 2), (64, .iload 4, 2), (66, .imul, 1), (67, .iload 7, 2), (69, .iadd, 1), (70, .iaload, 1), (71, .i2l, 1), (72, .aload_n 0, 1), (73, .getfield 26, 3), (76, .bipush 6, 2), (78, .iload 4, 2), (80, .imul, 1), (81, .iload 7, 2), (83, .iadd, 1), (84, .iaload, 1), (85, .i2l, 1), (86, .lmul, 1), (87, .goto 17, 3), (90, .aload_n 0, 1), (91, .getfield 23, 3), (94, .bipush 6, 2), (96, .iload 4, 2), (98, .imul, 1), (99, .iload 7, 2), (101, .iadd, 1), (102, .iaload, 1), (103, .i2l, 1), (104, .ladd, 1), (105, .lstore 5, 2), (107, .iinc 7 1, 3), (110, .goto (-67), 3), (113, .aload_n 0, 1), (114, .iload 4, 2), (116, .lload 5, 2), (118, .invokevirtual 255, 3), (121, .iinc 4 1, 3), (124, .goto (-96), 3), (127, .aload_n 0, 1), (128, .iload_n 1, 1), (129, .invokevirtual 259, 3), (132, .return_, 1)]
theorem tX11_meanTo : Tb mX11_meanTo.2.1 lX11_meanTo := Tb.of (by decide +kernel)
def lX11_isVertex : List (Nat × Instr × Nat) := [(0, .aload_n 0, 1), (1, .iload_n 1, 1), (2, .i2l, 1), (3, .lconst 0, 1), (4, .aload_n 0, 1), (5, .invokevirtual 218, 3), (8, .iconst 1, 1), (9, .isub, 1), (10, .i2l, 1), (11, .invokestatic 114, 3), (14, .iconst 1, 1), (15, .invokevirtual 190, 3), (18, .ireturn, 1)]
theorem tX11_isVertex : Tb mX11_isVertex.2.1 lX11_isVertex := Tb.of (by decide +kernel)
def lX11_size : List (Nat × Instr × Nat) := [(0, .aload_n 0, 1), (1, .iconst 0, 1), (2, .putfield 55, 3), (5, .aload_n 0, 1), (6, .invokevirtual 218, 3), (9, .ireturn, 1)]
theorem tX11_size : Tb mX11_size.2.1 lX11_size := Tb.of (by decide +kernel)
def lX11_edgeCount : List (Nat × Instr × Nat) := [(0, .aload_n 0, 1), (1, .iconst 0, 1), (2, .putfield 55, 3), (5, .aload_n 0, 1), (6, .iconst 1, 1), (7, .invokevirtual 61, 3), (10, .ireturn, 1)]
theorem tX11_edgeCount : Tb mX11_edgeCount.2.1 lX11_edgeCount := Tb.of (by decide +kernel)
def lX11_isEdge : List (Nat × Instr × Nat) := [(0, .aload_n 0, 1), (1, .iconst 0, 1), (2, .putfield 55, 3), (5, .aload_n 0, 1), (6, .iload_n 1, 1), (7, .i2l, 1), (8, .lconst 0, 1), (9, .aload_n 0, 1), (10, .iconst 1, 1), (11, .invokevirtual 61, 3), (14, .iconst 1, 1), (15, .isub, 1), (16, .i2l, 1), (17, .invokestatic 114, 3), (20, .iconst 1, 1), (21, .invokevirtual 190, 3), (24, .ireturn, 1)]
theorem tX11_isEdge : Tb mX11_isEdge.2.1 lX11_isEdge := Tb.of (by decide +kernel)
def lX11_edge : List (Nat × Instr × Nat) := [(0, .aload_n 0, 1), (1, .iload_n 1, 1), (2, .invokevirtual 262, 3), (5, .ifCond .eq 20, 3), (8, .aload_n 0, 1), (9, .iload_n 2, 1), (10, .i2l, 1), (11, .lconst 0, 1), (12, .ldc2_w 266, 3), (15, .invokestatic 114, 3), (18, .iconst 2, 1), (19, .invokevirtual 190, 3), (22, .ifCond .ne 5, 3), (25, .iconst 0, 1), (26, .ireturn, 1), (27, .iload_n 2, 1), (28, .iconst 3, 1), (29, .if_icmp .ge 15, 3), (32, .aload_n 0, 1), (33, .iconst 4, 1), (34, .iconst 3, 1), (35, .iload_n 1, 1), (36, .imul, 1), (37, .iadd, 1), (38, .iload_n 2, 1), (39, .iadd, 1), (40, .invokevirtual 61, 3), (43, .ireturn, 1), (44, .aload_n 0, 1), (45, .invokevirtual 268, 3), (48, .aload_n 0, 1), (49, .iconst 4, 1), (50, .iconst 3, 1), (51, .iload_n 1, 1), (52, .imul, 1), (53, .iadd, 1), (54, .invokevirtual 61, 3), (57, .istore_n 3, 1), (58, .aload_n 0, 1), (59, .iconst 4, 1), (60, .iconst 3, 1), (61, .iload_n 1, 1), (62, .imul, 1), (63, .iadd, 1), (64, .iconst 1, 1), (65, .iadd, 1), (66, .invokevirtual 61, 3), (69, .istore 4, 2), (71, .iload_n 2, 1), (72, .iconst 3, 1), (73, .if_icmp .ne 18, 3), (76, .aload_n 0, 1), (77, .getfield 26, 3), (80, .bipush 6, 2), (82, .iload_n 3, 1), (83, .imul, 1), (84, .iload 4, 2), (86, .iadd, 1), (87, .iaload, 1), (88, .goto 15, 3), (91, .aload_n 0, 1), (92, .getfield 26, 3), (95, .bipush 6, 2), (97, .iload 4, 2), (99, .imul, 1), (100, .iload_n 3, 1), (101, .iadd, 1), (102, .iaload, 1), (103, .ireturn, 1)]
theorem tX11_edge : Tb mX11_edge.2.1 lX11_edge := Tb.of (by decide +kernel)
def lX11_starts : List (Nat × Instr × Nat) := [(0, .aload_n 0, 1), (1, .iconst 0, 1), (2, .putfield 55, 3), (5, .aload_n 0, 1), (6, .invokevirtual 268, 3), (9, .aload_n 0, 1), (10, .iload_n 1, 1), (11, .invokevirtual 271, 3), (14, .ireturn, 1)]
theorem tX11_starts : Tb mX11_starts.2.1 lX11_starts := Tb.of (by decide +kernel)
def lX11_starts2 : List (Nat × Instr × Nat) := [(0, .aload_n 0, 1), (1, .iload_n 1, 1), (2, .invokevirtual 274, 3), (5, .ifCond .eq 15, 3), (8, .aload_n 0, 1), (9, .iload_n 2, 1), (10, .invokevirtual 271, 3), (13, .ifCond .eq 7, 3), (16, .iconst 1, 1), (17, .goto 4, 3), (20, .iconst 0, 1), (21, .ireturn, 1)]
theorem tX11_starts2 : Tb mX11_starts2.2.1 lX11_starts2 := Tb.of (by decide +kernel)
def lX11_degree : List (Nat × Instr × Nat) := [(0, .aload_n 0, 1), (1, .iload_n 1, 1), (2, .invokevirtual 274, 3), (5, .ifCond .eq 12, 3), (8, .aload_n 0, 1), (9, .getfield 29, 3), (12, .iload_n 1, 1), (13, .iaload, 1), (14, .goto 4, 3), (17, .iconst 0, 1), (18, .ireturn, 1)]
theorem tX11_degree : Tb mX11_degree.2.1 lX11_degree := Tb.of (by decide +kernel)
def lX11_reachable : List (Nat × Instr × Nat) := [(0, .aload_n 0, 1), (1, .iload_n 1, 1), (2, .invokevirtual 274, 3), (5, .ifCond .eq 11, 3), (8, .aload_n 0, 1), (9, .iload_n 1, 1), (10, .invokevirtual 249, 3), (13, .goto 4, 3), (16, .iconst 0, 1), (17, .ireturn, 1)]
theorem tX11_reachable : Tb mX11_reachable.2.1 lX11_reachable := Tb.of (by decide +kernel)
def lX11_step : List (Nat × Instr × Nat) := [(0, .aload_n 0, 1), (1, .getfield 29, 3), (4, .iload_n 1, 1), (5, .iaload, 1), (6, .ifCond .ne 21, 3), (9, .aload_n 0, 1), (10, .iload_n 1, 1), (11, .iload_n 2, 1), (12, .if_icmp .ne 7, 3), (15, .lconst 1, 1), (16, .goto 4, 3), (19, .lconst 0, 1), (20, .lconst 1, 1), (21, .invokevirtual 245, 3), (24, .goto 26, 3), (27, .aload_n 0, 1), (28, .aload_n 0, 1), (29, .getfield 23, 3), (32, .bipush 6, 2), (34, .iload_n 1, 1), (35, .imul, 1), (36, .iload_n 2, 1), (37, .iadd, 1), (38, .iaload, 1), (39, .i2l, 1), (40, .aload_n 0, 1), (41, .getfield 29, 3), (44, .iload_n 1, 1), (45, .iaload, 1), (46, .i2l, 1), (47, .invokevirtual 245, 3), (50, .return_, 1)]
theorem tX11_step : Tb mX11_step.2.1 lX11_step := Tb.of (by decide +kernel)
def lX11_transition : List (Nat × Instr × Nat) := [(0, .aload_n 0, 1), (1, .iload_n 1, 1), (2, .iload_n 2, 1), (3, .invokevirtual 277, 3), (6, .ifCond .ne 5, 3), (9, .iconst 0, 1), (10, .ireturn, 1), (11, .aload_n 0, 1), (12, .iload_n 1, 1), (13, .iload_n 2, 1), (14, .invokevirtual 280, 3), (17, .aload_n 0, 1), (18, .iload_n 3, 1), (19, .invokevirtual 283, 3), (22, .l2i, 1), (23, .ireturn, 1)]
theorem tX11_transition : Tb mX11_transition.2.1 lX11_transition := Tb.of (by decide +kernel)
def lX11_canGo : List (Nat × Instr × Nat) := [(0, .aload_n 0, 1), (1, .iload_n 1, 1), (2, .iload_n 2, 1), (3, .invokevirtual 277, 3), (6, .ifCond .eq 24, 3), (9, .aload_n 0, 1), (10, .aload_n 0, 1), (11, .iload_n 1, 1), (12, .invokevirtual 249, 3), (15, .iload_n 2, 1), (16, .invokestatic 221, 3), (19, .iconst 2, 1), (20, .invokevirtual 190, 3), (23, .ifCond .eq 7, 3), (26, .iconst 1, 1), (27, .goto 4, 3), (30, .iconst 0, 1), (31, .ireturn, 1)]
theorem tX11_canGo : Tb mX11_canGo.2.1 lX11_canGo := Tb.of (by decide +kernel)
def lX11_hittingTime : List (Nat × Instr × Nat) := [(0, .aload_n 0, 1), (1, .iload_n 1, 1), (2, .iload_n 2, 1), (3, .invokevirtual 287, 3), (6, .ifCond .ne 5, 3), (9, .lconst 0, 1), (10, .lreturn, 1), (11, .aload_n 0, 1), (12, .iload_n 1, 1), (13, .iconst 1, 1), (14, .iload_n 2, 1), (15, .ishl, 1), (16, .iconst 0, 1), (17, .invokevirtual 290, 3), (20, .aload_n 0, 1), (21, .iload_n 3, 1), (22, .invokevirtual 283, 3), (25, .lreturn, 1)]
theorem tX11_hittingTime : Tb mX11_hittingTime.2.1 lX11_hittingTime := Tb.of (by decide +kernel)
def lX11_hittingCost : List (Nat × Instr × Nat) := [(0, .aload_n 0, 1), (1, .iload_n 1, 1), (2, .iload_n 2, 1), (3, .invokevirtual 287, 3), (6, .ifCond .ne 5, 3), (9, .lconst 0, 1), (10, .lreturn, 1), (11, .aload_n 0, 1), (12, .iload_n 1, 1), (13, .iconst 1, 1), (14, .iload_n 2, 1), (15, .ishl, 1), (16, .iconst 1, 1), (17, .invokevirtual 290, 3), (20, .aload_n 0, 1), (21, .iload_n 3, 1), (22, .invokevirtual 283, 3), (25, .lreturn, 1)]
theorem tX11_hittingCost : Tb mX11_hittingCost.2.1 lX11_hittingCost := Tb.of (by decide +kernel)
def lX11_commutes : List (Nat × Instr × Nat) := [(0, .aload_n 0, 1), (1, .iload_n 1, 1), (2, .iconst 1, 1), (3, .iload_n 2, 1), (4, .ishl, 1), (5, .iconst 0, 1), (6, .invokevirtual 290, 3), (9, .aload_n 0, 1), (10, .getfield 228, 3), (13, .lstore_n 3, 1), (14, .aload_n 0, 1), (15, .getfield 232, 3), (18, .lstore 5, 2), (20, .aload_n 0, 1), (21, .iload_n 2, 1), (22, .iconst 1, 1), (23, .iload_n 1, 1), (24, .ishl, 1), (25, .iconst 0, 1), (26, .invokevirtual 290, 3), (29, .lload 5, 2), (31, .aload_n 0, 1), (32, .getfield 232, 3), (35, .invokestatic 225, 3), (38, .lstore 7, 2), (40, .aload_n 0, 1), (41, .lload_n 3, 1), (42, .aload_n 0, 1), (43, .getfield 232, 3), (46, .lload 7, 2), (48, .ldiv, 1), (49, .lmul, 1), (50, .aload_n 0, 1), (51, .getfield 228, 3), (54, .lload 5, 2), (56, .lload 7, 2), (58, .ldiv, 1), (59, .lmul, 1), (60, .ladd, 1), (61, .lload 5, 2), (63, .lload 7, 2), (65, .ldiv, 1), (66, .aload_n 0, 1), (67, .getfield 232, 3), (70, .lmul, 1), (71, .invokevirtual 245, 3), (74, .return_, 1)]
theorem tX11_commutes : Tb mX11_commutes.2.1 lX11_commutes := Tb.of (by decide +kernel)
def lX11_commuteTime : List (Nat × Instr × Nat) := [(0, .aload_n 0, 1), (1, .iload_n 1, 1), (2, .iload_n 2, 1), (3, .invokevirtual 287, 3), (6, .ifCond .ne 5, 3), (9, .lconst 0, 1), (10, .lreturn, 1), (11, .aload_n 0, 1), (12, .iload_n 1, 1), (13, .iload_n 2, 1), (14, .invokevirtual 294, 3), (17, .aload_n 0, 1), (18, .iload_n 3, 1), (19, .invokevirtual 283, 3), (22, .lreturn, 1)]
theorem tX11_commuteTime : Tb mX11_commuteTime.2.1 lX11_commuteTime := Tb.of (by decide +kernel)
def lX11_resistance : List (Nat × Instr × Nat) := [(0, .aload_n 0, 1), (1, .iload_n 1, 1), (2, .iload_n 2, 1), (3, .invokevirtual 287, 3), (6, .ifCond .ne 5, 3), (9, .lconst 0, 1), (10, .lreturn, 1), (11, .aload_n 0, 1), (12, .iload_n 1, 1), (13, .iload_n 2, 1), (14, .invokevirtual 294, 3), (17, .aload_n 0, 1), (18, .iload_n 1, 1), (19, .invokevirtual 249, 3), (22, .istore 4, 2), (24, .lconst 0, 1), (25, .lstore 5, 2), (27, .iconst 0, 1), (28, .istore 7, 2), (30, .iload 7, 2), (32, .aload_n 0, 1), (33, .invokevirtual 218, 3), (36, .if_icmp .ge 36, 3), (39, .lload 5, 2), (41, .iload 4, 2), (43, .iload 7, 2), (45, .invokestatic 221, 3), (48, .ifCond .eq 14, 3), (51, .aload_n 0, 1), (52, .getfield 29, 3), (55, .iload 7, 2), (57, .iaload, 1), (58, .i2l, 1), (59, .goto 4, 3), (62, .lconst 0, 1), (63, .ladd, 1), (64, .lstore 5, 2), (66, .iinc 7 1, 3), (69, .goto (-39), 3), (72, .iload_n 1, 1), (73, .iload_n 2, 1), (74, .if_icmp .eq 18, 3), (77, .aload_n 0, 1), (78, .aload_n 0, 1), (79, .getfield 228, 3), (82, .aload_n 0, 1), (83, .getfield 232, 3), (86, .lload 5, 2), (88, .lmul, 1), (89, .invokevirtual 245, 3), (92, .aload_n 0, 1), (93, .iload_n 3, 1), (94, .invokevirtual 283, 3), (97, .lreturn, 1)]
theorem tX11_resistance : Tb mX11_resistance.2.1 lX11_resistance := Tb.of (by decide +kernel)
def lX11_treesNow : List (Nat × Instr × Nat) := [(0, .aload_n 0, 1), (1, .invokevirtual 268, 3), (4, .aload_n 0, 1), (5, .invokevirtual 218, 3), (8, .ifCond .ne 5, 3), (11, .lconst 0, 1), (12, .lreturn, 1), (13, .aload_n 0, 1), (14, .iconst 1, 1), (15, .aload_n 0, 1), (16, .invokevirtual 218, 3), (19, .ishl, 1), (20, .iconst 1, 1), (21, .isub, 1), (22, .iconst 1, 1), (23, .invokevirtual 252, 3), (26, .aload_n 0, 1), (27, .iconst (-1), 1), (28, .invokevirtual 242, 3), (31, .lreturn, 1)]
theorem tX11_treesNow : Tb mX11_treesNow.2.1 lX11_treesNow := Tb.of (by decide +kernel)
def lX11_trees : List (Nat × Instr × Nat) := [(0, .aload_n 0, 1), (1, .iconst 0, 1), (2, .putfield 55, 3), (5, .aload_n 0, 1), (6, .invokevirtual 297, 3), (9, .lreturn, 1)]
theorem tX11_trees : Tb mX11_trees.2.1 lX11_trees := Tb.of (by decide +kernel)
def lX11_absorbing : List (Nat × Instr × Nat) := [(0, .aload_n 0, 1), (1, .iconst 0, 1), (2, .putfield 55, 3), (5, .aload_n 0, 1), (6, .iconst 2, 1), (7, .invokevirtual 61, 3), (10, .ireturn, 1)]
theorem tX11_absorbing : Tb mX11_absorbing.2.1 lX11_absorbing := Tb.of (by decide +kernel)
def lX11_absorption : List (Nat × Instr × Nat) := [(0, .aload_n 0, 1), (1, .iload_n 1, 1), (2, .iload_n 2, 1), (3, .invokevirtual 277, 3), (6, .ifCond .eq 47, 3), (9, .aload_n 0, 1), (10, .aload_n 0, 1), (11, .iconst 2, 1), (12, .invokevirtual 61, 3), (15, .iload_n 2, 1), (16, .invokestatic 221, 3), (19, .iconst 2, 1), (20, .invokevirtual 190, 3), (23, .ifCond .eq 30, 3), (26, .aload_n 0, 1), (27, .aload_n 0, 1), (28, .iload_n 1, 1), (29, .invokevirtual 249, 3), (32, .aload_n 0, 1), (33, .iconst 2, 1), (34, .invokevirtual 61, 3), (37, .iand, 1), (38, .ifCond .eq 7, 3), (41, .iconst 1, 1), (42, .goto 4, 3), (45, .iconst 0, 1), (46, .iconst 3, 1), (47, .invokevirtual 190, 3), (50, .ifCond .ne 5, 3), (53, .lconst 0, 1), (54, .lreturn, 1), (55, .aload_n 0, 1), (56, .iconst 2, 1), (57, .invokevirtual 61, 3), (60, .iload_n 1, 1), (61, .invokestatic 221, 3), (64, .ifCond .eq 24, 3), (67, .aload_n 0, 1), (68, .iload_n 1, 1), (69, .iload_n 2, 1), (70, .if_icmp .ne 7, 3), (73, .lconst 1, 1), (74, .goto 4, 3), (77, .lconst 0, 1), (78, .lconst 1, 1), (79, .invokevirtual 245, 3), (82, .aload_n 0, 1), (83, .iload_n 3, 1), (84, .invokevirtual 283, 3), (87, .lreturn, 1), (88, .aload_n 0, 1), (89, .aload_n 0, 1), (90, .iload_n 1, 1), (91, .invokevirtual 249, 3), (94, .aload_n 0, 1), (95, .iconst 2, 1), (96, .invokevirtual 61, 3), (99, .invokevirtual 252, 3), (102, .iconst 0, 1), (103, .istore 4, 2), (105, .iload 4, 2), (107, .aload_n 0, 1), (108, .invokevirtual 218, 3), (111, .if_icmp .ge 28, 3), (114, .aload_n 0, 1), (115, .iload 4, 2), (117, .aload_n 0, 1), (118, .getfield 23, 3), (121, .bipush 6, 2), (123, .iload 4, 2), (125, .imul, 1), (126, .iload_n 2, 1), (127, .iadd, 1), (128, .iaload, 1), (129, .i2l, 1), (130, .invokevirtual 255, 3), (133, .iinc 4 1, 3), (136, .goto (-31), 3), (139, .aload_n 0, 1), (140, .iload_n 1, 1), (141, .invokevirtual 259, 3), (144, .aload_n 0, 1), (145, .iload_n 3, 1), (146, .invokevirtual 283, 3), (149, .lreturn, 1)]
theorem tX11_absorption : Tb mX11_absorption.2.1 lX11_absorption := Tb.of (by decide +kernel)
def lX11_absorptionTime : List (Nat × Instr × Nat) := [(0, .aload_n 0, 1), (1, .iload_n 1, 1), (2, .invokevirtual 274, 3), (5, .ifCond .eq 30, 3), (8, .aload_n 0, 1), (9, .aload_n 0, 1), (10, .iload_n 1, 1), (11, .invokevirtual 249, 3), (14, .aload_n 0, 1), (15, .iconst 2, 1), (16, .invokevirtual 61, 3), (19, .iand, 1), (20, .ifCond .eq 7, 3), (23, .iconst 1, 1), (24, .goto 4, 3), (27, .iconst 0, 1), (28, .iconst 2, 1), (29, .invokevirtual 190, 3), (32, .ifCond .ne 5, 3), (35, .lconst 0, 1), (36, .lreturn, 1), (37, .aload_n 0, 1), (38, .iload_n 1, 1), (39, .aload_n 0, 1), (40, .iconst 2, 1), (41, .invokevirtual 61, 3), (44, .iconst 0, 1), (45, .invokevirtual 290, 3), (48, .aload_n 0, 1), (49, .iload_n 2, 1), (50, .invokevirtual 283, 3), (53, .lreturn, 1)]
theorem tX11_absorptionTime : Tb mX11_absorptionTime.2.1 lX11_absorptionTime := Tb.of (by decide +kernel)
def lX11_numbers : List (Nat × Instr × Nat) := [(0, .iconst 0, 1), (1, .istore_n 1, 1), (2, .iconst 0, 1), (3, .istore_n 2, 1), (4, .iload_n 2, 1), (5, .aload_n 0, 1), (6, .invokevirtual 218, 3), (9, .if_icmp .ge 83, 3), (12, .iconst (-1), 1), (13, .istore_n 3, 1), (14, .iconst 0, 1), (15, .istore 4, 2), (17, .iload 4, 2), (19, .iload_n 2, 1), (20, .if_icmp .ge 37, 3), (23, .aload_n 0, 1), (24, .bipush 49, 2), (26, .iload 4, 2), (28, .iadd, 1), (29, .invokevirtual 61, 3), (32, .aload_n 0, 1), (33, .bipush 49, 2), (35, .iload_n 2, 1), (36, .iadd, 1), (37, .invokevirtual 61, 3), (40, .if_icmp .ne 11, 3), (43, .aload_n 0, 1), (44, .getfield 45, 3), (47, .iload 4, 2), (49, .iaload, 1), (50, .istore_n 3, 1), (51, .iinc 4 1, 3), (54, .goto (-37), 3), (57, .aload_n 0, 1), (58, .getfield 45, 3), (61, .iload_n 2, 1), (62, .iload_n 3, 1), (63, .iconst (-1), 1), (64, .if_icmp .ne 7, 3), (67, .iload_n 1, 1), (68, .goto 4, 3), (71, .iload_n 3, 1), (72, .iastore, 1), (73, .iload_n 1, 1), (74, .iload_n 3, 1), (75, .iconst (-1), 1), (76, .if_icmp .ne 7, 3), (79, .iconst 1, 1), (80, .goto 4, 3), (83, .iconst 0, 1), (84, .iadd, 1), (85, .istore_n 1, 1), (86, .iinc 2 1, 3), (89, .goto (-85), 3), (92, .iconst 0, 1), (93, .istore_n 2, 1), (94, .iload_n 2, 1), (95, .aload_n 0, 1), (96, .invokevirtual 218, 3), (99, .if_icmp .ge 23, 3), (102, .aload_n 0, 1), (103, .bipush 49, 2), (105, .iload_n 2, 1), (106, .iadd, 1), (107, .aload_n 0, 1), (108, .getfield 45, 3), (111, .iload_n 2, 1), (112, .iaload, 1), (113, .invokevirtual 200, 3), (116, .iinc 2 1, 3), (119, .goto (-25), 3), (122, .return_, 1)]
theorem tX11_numbers : Tb mX11_numbers.2.1 lX11_numbers := Tb.of (by decide +kernel)
def lX11_blocksNow : List (Nat × Instr × Nat) := [(0, .iconst 0, 1), (1, .istore_n 1, 1), (2, .iconst 0, 1), (3, .istore_n 2, 1), (4, .iload_n 2, 1), (5, .aload_n 0, 1), (6, .invokevirtual 218, 3), (9, .if_icmp .ge 24, 3), (12, .iload_n 1, 1), (13, .aload_n 0, 1), (14, .bipush 49, 2), (16, .iload_n 2, 1), (17, .iadd, 1), (18, .invokevirtual 61, 3), (21, .iconst 1, 1), (22, .iadd, 1), (23, .invokestatic 150, 3), (26, .istore_n 1, 1), (27, .iinc 2 1, 3), (30, .goto (-26), 3), (33, .iload_n 1, 1), (34, .ireturn, 1)]
theorem tX11_blocksNow : Tb mX11_blocksNow.2.1 lX11_blocksNow := Tb.of (by decide +kernel)
def lX11_toBlock : List (Nat × Instr × Nat) := [(0, .iconst 0, 1), (1, .istore_n 3, 1), (2, .iconst 0, 1), (3, .istore 4, 2), (5, .iload 4, 2), (7, .aload_n 0, 1), (8, .invokevirtual 218, 3), (11, .if_icmp .ge 41, 3), (14, .iload_n 3, 1), (15, .aload_n 0, 1), (16, .bipush 49, 2), (18, .iload 4, 2), (20, .iadd, 1), (21, .invokevirtual 61, 3), (24, .iload_n 2, 1), (25, .if_icmp .ne 18, 3), (28, .aload_n 0, 1), (29, .getfield 23, 3), (32, .bipush 6, 2), (34, .iload_n 1, 1), (35, .imul, 1), (36, .iload 4, 2), (38, .iadd, 1), (39, .iaload, 1), (40, .goto 4, 3), (43, .iconst 0, 1), (44, .iadd, 1), (45, .istore_n 3, 1), (46, .iinc 4 1, 3), (49, .goto (-44), 3), (52, .aload_n 0, 1), (53, .getfield 29, 3), (56, .iload_n 1, 1), (57, .iaload, 1), (58, .ifCond .ne 23, 3), (61, .aload_n 0, 1), (62, .bipush 49, 2), (64, .iload_n 1, 1), (65, .iadd, 1), (66, .invokevirtual 61, 3), (69, .iload_n 2, 1), (70, .if_icmp .ne 7, 3), (73, .iconst 1, 1), (74, .goto 8, 3), (77, .iconst 0, 1), (78, .goto 4, 3), (81, .iload_n 3, 1), (82, .ireturn, 1)]
theorem tX11_toBlock : Tb mX11_toBlock.2.1 lX11_toBlock := Tb.of (by decide +kernel)
def lX11_by : List (Nat × Instr × Nat) := [(0, .aload_n 0, 1), (1, .getfield 29, 3), (4, .iload_n 1, 1), (5, .iaload, 1), (6, .ifCond .ne 7, 3), (9, .iconst 1, 1), (10, .goto 9, 3), (13, .aload_n 0, 1), (14, .getfield 29, 3), (17, .iload_n 1, 1), (18, .iaload, 1), (19, .ireturn, 1)]
theorem tX11_by : Tb mX11_by.2.1 lX11_by := Tb.of (by decide +kernel)
def lX11_areUnlike : List (Nat × Instr × Nat) := [(0, .iload_n 3, 1), (1, .aload_n 0, 1), (2, .bipush 49, 2), (4, .iload_n 1, 1), (5, .iadd, 1), (6, .invokevirtual 61, 3), (9, .if_icmp .eq 34, 3), (12, .aload_n 0, 1), (13, .iload_n 1, 1), (14, .iload_n 3, 1), (15, .invokevirtual 301, 3), (18, .aload_n 0, 1), (19, .iload_n 2, 1), (20, .invokevirtual 304, 3), (23, .imul, 1), (24, .aload_n 0, 1), (25, .iload_n 2, 1), (26, .iload_n 3, 1), (27, .invokevirtual 301, 3), (30, .aload_n 0, 1), (31, .iload_n 1, 1), (32, .invokevirtual 304, 3), (35, .imul, 1), (36, .if_icmp .eq 7, 3), (39, .iconst 1, 1), (40, .goto 4, 3), (43, .iconst 0, 1), (44, .ireturn, 1)]
theorem tX11_areUnlike : Tb mX11_areUnlike.2.1 lX11_areUnlike := Tb.of (by decide +kernel)
def lX11_firstParted : List (Nat × Instr × Nat) := [(0, .aload_n 0, 1), (1, .invokevirtual 268, 3), (4, .iconst 0, 1), (5, .istore_n 1, 1), (6, .iload_n 1, 1), (7, .aload_n 0, 1), (8, .invokevirtual 218, 3), (11, .if_icmp .ge 84, 3), (14, .iload_n 1, 1), (15, .iconst 1, 1), (16, .iadd, 1), (17, .istore_n 2, 1), (18, .iload_n 2, 1), (19, .aload_n 0, 1), (20, .invokevirtual 218, 3), (23, .if_icmp .ge 66, 3), (26, .iconst 0, 1), (27, .istore_n 3, 1), (28, .iload_n 3, 1), (29, .aload_n 0, 1), (30, .invokevirtual 307, 3), (33, .if_icmp .ge 50, 3), (36, .aload_n 0, 1), (37, .bipush 49, 2), (39, .iload_n 1, 1), (40, .iadd, 1), (41, .invokevirtual 61, 3), (44, .aload_n 0, 1), (45, .bipush 49, 2), (47, .iload_n 2, 1), (48, .iadd, 1), (49, .invokevirtual 61, 3), (52, .if_icmp .ne 31, 3), (55, .aload_n 0, 1), (56, .iload_n 1, 1), (57, .iload_n 2, 1), (58, .iload_n 3, 1), (59, .invokevirtual 310, 3), (62, .ifCond .eq 15, 3), (65, .bipush 100, 2), (67, .iload_n 1, 1), (68, .imul, 1), (69, .bipush 10, 2), (71, .iload_n 2, 1), (72, .imul, 1), (73, .iadd, 1), (74, .iload_n 3, 1), (75, .iadd, 1), (76, .ireturn, 1), (77, .iinc 3 1, 3), (80, .goto (-52), 3), (83, .iinc 2 1, 3), (86, .goto (-68), 3), (89, .iinc 1 1, 3), (92, .goto (-86), 3), (95, .iconst (-1), 1), (96, .ireturn, 1)]
theorem tX11_firstParted : Tb mX11_firstParted.2.1 lX11_firstParted := Tb.of (by decide +kernel)
def lX11_blockOf : List (Nat × Instr × Nat) := [(0, .aload_n 0, 1), (1, .iload_n 1, 1), (2, .invokevirtual 274, 3), (5, .ifCond .eq 14, 3), (8, .aload_n 0, 1), (9, .bipush 49, 2), (11, .iload_n 1, 1), (12, .iadd, 1), (13, .invokevirtual 61, 3), (16, .goto 4, 3), (19, .iconst 0, 1), (20, .ireturn, 1)]
theorem tX11_blockOf : Tb mX11_blockOf.2.1 lX11_blockOf := Tb.of (by decide +kernel)
def lX11_blockCount : List (Nat × Instr × Nat) := [(0, .aload_n 0, 1), (1, .iconst 0, 1), (2, .putfield 55, 3), (5, .aload_n 0, 1), (6, .invokevirtual 307, 3), (9, .ireturn, 1)]
theorem tX11_blockCount : Tb mX11_blockCount.2.1 lX11_blockCount := Tb.of (by decide +kernel)
def lX11_isLumpable : List (Nat × Instr × Nat) := [(0, .aload_n 0, 1), (1, .iconst 0, 1), (2, .putfield 55, 3), (5, .aload_n 0, 1), (6, .invokevirtual 314, 3), (9, .iconst (-1), 1), (10, .if_icmp .ne 7, 3), (13, .iconst 1, 1), (14, .goto 4, 3), (17, .iconst 0, 1), (18, .ireturn, 1)]
theorem tX11_isLumpable : Tb mX11_isLumpable.2.1 lX11_isLumpable := Tb.of (by decide +kernel)
def lX11_parted : List (Nat × Instr × Nat) := [(0, .aload_n 0, 1), (1, .iconst 0, 1), (2, .putfield 55, 3), (5, .aload_n 0, 1), (6, .invokevirtual 314, 3), (9, .ireturn, 1)]
theorem tX11_parted : Tb mX11_parted.2.1 lX11_parted := Tb.of (by decide +kernel)
def lX11_firstOf : List (Nat × Instr × Nat) := [(0, .iconst 0, 1), (1, .istore_n 2, 1), (2, .aload_n 0, 1), (3, .bipush 49, 2), (5, .iload_n 2, 1), (6, .iadd, 1), (7, .invokevirtual 61, 3), (10, .iload_n 1, 1), (11, .if_icmp .eq 9, 3), (14, .iinc 2 1, 3), (17, .goto (-15), 3), (20, .iload_n 2, 1), (21, .ireturn, 1)]
theorem tX11_firstOf : Tb mX11_firstOf.2.1 lX11_firstOf := Tb.of (by decide +kernel)
def lX11_setOf : List (Nat × Instr × Nat) := [(0, .iconst 0, 1), (1, .istore_n 2, 1), (2, .iconst 0, 1), (3, .istore_n 3, 1), (4, .iload_n 3, 1), (5, .aload_n 0, 1), (6, .invokevirtual 218, 3), (9, .if_icmp .ge 31, 3), (12, .iload_n 2, 1), (13, .aload_n 0, 1), (14, .bipush 49, 2), (16, .iload_n 3, 1), (17, .iadd, 1), (18, .invokevirtual 61, 3), (21, .iload_n 1, 1), (22, .if_icmp .ne 9, 3), (25, .iconst 1, 1), (26, .iload_n 3, 1), (27, .ishl, 1), (28, .goto 4, 3), (31, .iconst 0, 1), (32, .ior, 1), (33, .istore_n 2, 1), (34, .iinc 3 1, 3), (37, .goto (-33), 3), (40, .iload_n 2, 1), (41, .ireturn, 1)]
theorem tX11_setOf : Tb mX11_setOf.2.1 lX11_setOf := Tb.of (by decide +kernel)
def lX11_areBlocks : List (Nat × Instr × Nat) := [(0, .aload_n 0, 1), (1, .iconst 0, 1), (2, .putfield 55, 3), (5, .aload_n 0, 1), (6, .iload_n 1, 1), (7, .i2l, 1), (8, .lconst 0, 1), (9, .aload_n 0, 1), (10, .invokevirtual 307, 3), (13, .iconst 1, 1), (14, .isub, 1), (15, .i2l, 1), (16, .invokestatic 114, 3), (19, .ifCond .eq 23, 3), (22, .iload_n 2, 1), (23, .i2l, 1), (24, .lconst 0, 1), (25, .aload_n 0, 1), (26, .invokevirtual 307, 3), (29, .iconst 1, 1), (30, .isub, 1), (31, .i2l, 1), (32, .invokestatic 114, 3), (35, .ifCond .eq 7, 3), (38, .iconst 1, 1), (39, .goto 4, 3), (42, .iconst 0, 1), (43, .iconst 1, 1), (44, .invokevirtual 190, 3), (47, .ifCond .eq 28, 3), (50, .aload_n 0, 1), (51, .aload_n 0, 1), (52, .invokevirtual 314, 3), (55, .iconst (-1), 1), (56, .if_icmp .ne 7, 3), (59, .iconst 1, 1), (60, .goto 4, 3), (63, .iconst 0, 1), (64, .iconst 2, 1), (65, .invokevirtual 190, 3), (68, .ifCond .eq 7, 3), (71, .iconst 1, 1), (72, .goto 4, 3), (75, .iconst 0, 1), (76, .ireturn, 1)]
theorem tX11_areBlocks : Tb mX11_areBlocks.2.1 lX11_areBlocks := Tb.of (by decide +kernel)
def lX11_lumped : List (Nat × Instr × Nat) := [(0, .aload_n 0, 1), (1, .iload_n 1, 1), (2, .iload_n 2, 1), (3, .invokevirtual 317, 3), (6, .ifCond .ne 5, 3), (9, .iconst 0, 1), (10, .ireturn, 1), (11, .aload_n 0, 1), (12, .iload_n 1, 1), (13, .invokevirtual 320, 3), (16, .istore 4, 2), (18, .aload_n 0, 1), (19, .aload_n 0, 1), (20, .iload 4, 2), (22, .iload_n 2, 1), (23, .invokevirtual 301, 3), (26, .i2l, 1), (27, .aload_n 0, 1), (28, .iload 4, 2), (30, .invokevirtual 304, 3), (33, .i2l, 1), (34, .invokevirtual 245, 3), (37, .aload_n 0, 1), (38, .iload_n 3, 1), (39, .invokevirtual 283, 3), (42, .l2i, 1), (43, .ireturn, 1)]
theorem tX11_lumped : Tb mX11_lumped.2.1 lX11_lumped := Tb.of (by decide +kernel)
def lX11_lumpedTime : List (Nat × Instr × Nat) := [(0, .aload_n 0, 1), (1, .iload_n 1, 1), (2, .iload_n 2, 1), (3, .invokevirtual 317, 3), (6, .ifCond .ne 5, 3), (9, .lconst 0, 1), (10, .lreturn, 1), (11, .aload_n 0, 1), (12, .iload_n 1, 1), (13, .invokevirtual 320, 3), (16, .istore 4, 2), (18, .aload_n 0, 1), (19, .aload_n 0, 1), (20, .iload 4, 2), (22, .invokevirtual 249, 3), (25, .aload_n 0, 1), (26, .iload_n 2, 1), (27, .invokevirtual 323, 3), (30, .iand, 1), (31, .ifCond .eq 7, 3), (34, .iconst 1, 1), (35, .goto 4, 3), (38, .iconst 0, 1), (39, .iconst 2, 1), (40, .invokevirtual 190, 3), (43, .ifCond .ne 5, 3), (46, .lconst 0, 1), (47, .lreturn, 1), (48, .aload_n 0, 1), (49, .iload 4, 2), (51, .aload_n 0, 1), (52, .iload_n 2, 1), (53, .invokevirtual 323, 3), (56, .iconst 0, 1), (57, .invokevirtual 290, 3), (60, .aload_n 0, 1), (61, .iload_n 3, 1), (62, .invokevirtual 283, 3), (65, .lreturn, 1)]
theorem tX11_lumpedTime : Tb mX11_lumpedTime.2.1 lX11_lumpedTime := Tb.of (by decide +kernel)
def lX11_after : List (Nat × Instr × Nat) := [(0, .aload_n 0, 1), (1, .iload_n 1, 1), (2, .iload_n 2, 1), (3, .invokevirtual 277, 3), (6, .ifCond .eq 20, 3), (9, .aload_n 0, 1), (10, .iload_n 3, 1), (11, .i2l, 1), (12, .lconst 0, 1), (13, .ldc2_w 326, 3), (16, .invokestatic 114, 3), (19, .iconst 2, 1), (20, .invokevirtual 190, 3), (23, .ifCond .ne 5, 3), (26, .fconst 0, 1), (27, .freturn, 1), (28, .iconst 0, 1), (29, .istore 4, 2), (31, .iload 4, 2), (33, .aload_n 0, 1), (34, .invokevirtual 218, 3), (37, .if_icmp .ge 27, 3), (40, .aload_n 0, 1), (41, .getfield 48, 3), (44, .iload 4, 2), (46, .iload 4, 2), (48, .iload_n 1, 1), (49, .if_icmp .ne 7, 3), (52, .fconst 1, 1), (53, .goto 4, 3), (56, .fconst 0, 1), (57, .fastore, 1), (58, .iinc 4 1, 3), (61, .goto (-30), 3), (64, .iconst 0, 1), (65, .istore 4, 2), (67, .iload 4, 2), (69, .iload_n 3, 1), (70, .if_icmp .ge 136, 3), (73, .iconst 0, 1), (74, .istore 5, 2), (76, .iload 5, 2), (78, .aload_n 0, 1), (79, .invokevirtual 218, 3), (82, .if_icmp .ge 86, 3), (85, .aload_n 0, 1), (86, .getfield 52, 3), (89, .iload 5, 2), (91, .fconst 0, 1), (92, .fastore, 1), (93, .iconst 0, 1), (94, .istore 6, 2), (96, .iload 6, 2), (98, .aload_n 0, 1), (99, .invokevirtual 218, 3), (102, .if_icmp .ge 60, 3), (105, .aload_n 0, 1), (106, .iload 6, 2), (108, .iload 5, 2), (110, .invokevirtual 280, 3), (113, .aload_n 0, 1), (114, .getfield 228, 3), (117, .lconst 0, 1), (118, .lcmp, 1), (119, .ifCond .eq 37, 3), (122, .aload_n 0, 1), (123, .getfield 52, 3), (126, .iload 5, 2), (128, .aload_n 0, 1), (129, .getfield 52, 3), (132, .iload 5, 2), (134, .faload, 1), (135, .aload_n 0, 1), (136, .getfield 48, 3), (139, .iload 6, 2), (141, .faload, 1), (142, .aload_n 0, 1), (143, .getfield 228, 3), (146, .l2f, 1), (147, .aload_n 0, 1), (148, .getfield 232, 3), (151, .l2f, 1), (152, .fdiv, 1), (153, .fmul, 1), (154, .fadd, 1), (155, .fastore, 1), (156, .iinc 6 1, 3), (159, .goto (-63), 3), (162, .iinc 5 1, 3), (165, .goto (-89), 3), (168, .iconst 0, 1), (169, .istore 5, 2), (171, .iload 5, 2), (173, .aload_n 0, 1), (174, .invokevirtual 218, 3), (177, .if_icmp .ge 23, 3), (180, .aload_n 0, 1), (181, .getfield 48, 3), (184, .iload 5, 2), (186, .aload_n 0, 1), (187, .getfield 52, 3), (190, .iload 5, 2), (192, .faload, 1), (193, .fastore, 1), (194, .iinc 5 1, 3), (197, .goto (-26), 3), (200, .iinc 4 1, 3), (203, .goto (-136), 3), (206, .aload_n 0, 1), (207, .getfield 48, 3), (210, .iload_n 2, 1), (211, .faload, 1), (212, .freturn, 1)]
theorem tX11_after : Tb mX11_after.2.1 lX11_after := Tb.of (by decide +kernel)
def lX11_walk : List (Nat × Instr × Nat) := [(0, .aload_n 0, 1), (1, .iload_n 1, 1), (2, .invokevirtual 274, 3), (5, .ifCond .eq 45, 3), (8, .aload_n 0, 1), (9, .iload_n 2, 1), (10, .i2l, 1), (11, .lconst 0, 1), (12, .ldc2_w 328, 3), (15, .invokestatic 114, 3), (18, .ifCond .eq 24, 3), (21, .iload_n 3, 1), (22, .ifCond .lt 20, 3), (25, .iload 4, 2), (27, .i2l, 1), (28, .lconst 0, 1), (29, .ldc2_w 330, 3), (32, .invokestatic 114, 3), (35, .ifCond .eq 7, 3), (38, .iconst 1, 1), (39, .goto 4, 3), (42, .iconst 0, 1), (43, .iconst 2, 1), (44, .invokevirtual 190, 3), (47, .ifCond .ne 5, 3), (50, .iconst 0, 1), (51, .ireturn, 1), (52, .iload_n 3, 1), (53, .i2l, 1), (54, .lstore 5, 2), (56, .iload_n 1, 1), (57, .istore 7, 2), (59, .iconst 1, 1), (60, .iload_n 1, 1), (61, .ishl, 1), (62, .istore 8, 2), (64, .iconst 0, 1), (65, .istore 9, 2), (67, .aload_n 0, 1), (68, .iconst 2, 1), (69, .invokevirtual 61, 3), (72, .iload_n 1, 1), (73, .invokestatic 221, 3), (76, .ifCond .eq 7, 3), (79, .iconst 0, 1), (80, .goto 4, 3), (83, .iconst (-1), 1), (84, .istore 10, 2), (86, .iconst 1, 1), (87, .istore 11, 2), (89, .iload 11, 2), (91, .iload_n 2, 1), (92, .if_icmp .gt 159, 3), (95, .aload_n 0, 1), (96, .getfield 29, 3), (99, .iload 7, 2), (101, .iaload, 1), (102, .ifCond .le 106, 3), (105, .lload 5, 2), (107, .ldc2_w 332, 3), (110, .lmul, 1), (111, .ldc2_w 334, 3), (114, .ladd, 1), (115, .ldc2_w 336, 3), (118, .lrem, 1), (119, .lstore 5, 2), (121, .lload 5, 2), (123, .ldc2_w 338, 3), (126, .ldiv, 1), (127, .aload_n 0, 1), (128, .getfield 29, 3), (131, .iload 7, 2), (133, .iaload, 1), (134, .i2l, 1), (135, .lrem, 1), (136, .lstore 12, 2), (138, .iconst 0, 1), (139, .istore 14, 2), (141, .aload_n 0, 1), (142, .getfield 23, 3), (145, .bipush 6, 2), (147, .iload 7, 2), (149, .imul, 1), (150, .iload 14, 2), (152, .iadd, 1), (153, .iaload, 1), (154, .i2l, 1), (155, .lload 12, 2), (157, .lcmp, 1), (158, .ifCond .gt 28, 3), (161, .lload 12, 2), (163, .aload_n 0, 1), (164, .getfield 23, 3), (167, .bipush 6, 2), (169, .iload 7, 2), (171, .imul, 1), (172, .iload 14, 2), (174, .iadd, 1), (175, .iaload, 1), (176, .i2l, 1), (177, .lsub, 1), (178, .lstore 12, 2), (180, .iinc 14 1, 3), (183, .goto (-42), 3), (186, .iload 9, 2), (188, .aload_n 0, 1), (189, .getfield 26, 3), (192, .bipush 6, 2), (194, .iload 7, 2), (196, .imul, 1), (197, .iload 14, 2), (199, .iadd, 1), (200, .iaload, 1), (201, .iadd, 1), (202, .istore 9, 2), (204, .iload 14, 2), (206, .istore 7, 2), (208, .iload 8, 2), (210, .iconst 1, 1), (211, .iload 7, 2), (213, .ishl, 1), (214, .ior, 1), (215, .istore 8, 2), (217, .iload 10, 2), (219, .iconst (-1), 1), (220, .if_icmp .ne 21, 3), (223, .aload_n 0, 1), (224, .iconst 2, 1), (225, .invokevirtual 61, 3), (228, .iload 7, 2), (230, .invokestatic 221, 3), (233, .ifCond .eq 8, 3), (236, .iload 11, 2), (238, .goto 5, 3), (241, .iload 10, 2), (243, .istore 10, 2), (245, .iinc 11 1, 3), (248, .goto (-159), 3), (251, .iload 4, 2), (253, .ifCond .ne 8, 3), (256, .iload 7, 2), (258, .goto 27, 3), (261, .iload 4, 2), (263, .iconst 1, 1), (264, .if_icmp .ne 8, 3), (267, .iload 8, 2), (269, .goto 16, 3), (272, .iload 4, 2), (274, .iconst 2, 1), (275, .if_icmp .ne 8, 3), (278, .iload 9, 2), (280, .goto 5, 3), (283, .iload 10, 2), (285, .ireturn, 1)]
theorem tX11_walk : Tb mX11_walk.2.1 lX11_walk := Tb.of (by decide +kernel)
def lX11_setWeight : List (Nat × Instr × Nat) := [(0, .aload_n 0, 1), (1, .iload_n 1, 1), (2, .invokevirtual 262, 3), (5, .ifCond .eq 20, 3), (8, .aload_n 0, 1), (9, .iload_n 2, 1), (10, .i2l, 1), (11, .lconst 1, 1), (12, .ldc2_w 340, 3), (15, .invokestatic 114, 3), (18, .iconst 2, 1), (19, .invokevirtual 190, 3), (22, .ifCond .ne 5, 3), (25, .iconst 0, 1), (26, .ireturn, 1), (27, .aload_n 0, 1), (28, .iconst 4, 1), (29, .iconst 3, 1), (30, .iload_n 1, 1), (31, .imul, 1), (32, .iadd, 1), (33, .iconst 2, 1), (34, .iadd, 1), (35, .invokevirtual 61, 3), (38, .istore_n 3, 1), (39, .aload_n 0, 1), (40, .invokevirtual 197, 3), (43, .aload_n 0, 1), (44, .iconst 4, 1), (45, .iconst 3, 1), (46, .iload_n 1, 1), (47, .imul, 1), (48, .iadd, 1), (49, .iconst 2, 1), (50, .iadd, 1), (51, .iload_n 2, 1), (52, .invokevirtual 200, 3), (55, .iload_n 3, 1), (56, .ireturn, 1)]
theorem tX11_setWeight : Tb mX11_setWeight.2.1 lX11_setWeight := Tb.of (by decide +kernel)
def lX11_addEdge : List (Nat × Instr × Nat) := [(0, .aload_n 0, 1), (1, .iload_n 1, 1), (2, .iload_n 2, 1), (3, .invokevirtual 277, 3), (6, .ifCond .eq 60, 3), (9, .aload_n 0, 1), (10, .iload_n 1, 1), (11, .iload_n 2, 1), (12, .if_icmp .eq 19, 3), (15, .iload_n 3, 1), (16, .i2l, 1), (17, .lconst 1, 1), (18, .ldc2_w 340, 3), (21, .invokestatic 114, 3), (24, .ifCond .eq 7, 3), (27, .iconst 1, 1), (28, .goto 4, 3), (31, .iconst 0, 1), (32, .iconst 2, 1), (33, .invokevirtual 190, 3), (36, .ifCond .eq 30, 3), (39, .aload_n 0, 1), (40, .aload_n 0, 1), (41, .getfield 23, 3), (44, .bipush 6, 2), (46, .iload_n 1, 1), (47, .imul, 1), (48, .iload_n 2, 1), (49, .iadd, 1), (50, .iaload, 1), (51, .ifCond .ne 7, 3), (54, .iconst 1, 1), (55, .goto 4, 3), (58, .iconst 0, 1), (59, .iconst 3, 1), (60, .invokevirtual 190, 3), (63, .ifCond .ne 5, 3), (66, .iconst 0, 1), (67, .ireturn, 1), (68, .aload_n 0, 1), (69, .invokevirtual 197, 3), (72, .aload_n 0, 1), (73, .iconst 1, 1), (74, .invokevirtual 61, 3), (77, .istore 4, 2), (79, .aload_n 0, 1), (80, .iconst 4, 1), (81, .iconst 3, 1), (82, .iload 4, 2), (84, .imul, 1), (85, .iadd, 1), (86, .iload_n 1, 1), (87, .iload_n 2, 1), (88, .invokestatic 108, 3), (91, .invokevirtual 200, 3), (94, .aload_n 0, 1), (95, .iconst 4, 1), (96, .iconst 3, 1), (97, .iload 4, 2), (99, .imul, 1), (100, .iadd, 1), (101, .iconst 1, 1), (102, .iadd, 1), (103, .iload_n 1, 1), (104, .iload_n 2, 1), (105, .invokestatic 150, 3), (108, .invokevirtual 200, 3), (111, .aload_n 0, 1), (112, .iconst 4, 1), (113, .iconst 3, 1), (114, .iload 4, 2), (116, .imul, 1), (117, .iadd, 1), (118, .iconst 2, 1), (119, .iadd, 1), (120, .iload_n 3, 1), (121, .invokevirtual 200, 3), (124, .aload_n 0, 1), (125, .iconst 1, 1), (126, .iload 4, 2), (128, .iconst 1, 1), (129, .iadd, 1), (130, .invokevirtual 200, 3), (133, .iload 4, 2), (135, .ireturn, 1)]
theorem tX11_addEdge : Tb mX11_addEdge.2.1 lX11_addEdge := Tb.of (by decide +kernel)
def lX11_removeEdge : List (Nat × Instr × Nat) := [(0, .aload_n 0, 1), (1, .iload_n 1, 1), (2, .invokevirtual 262, 3), (5, .ifCond .ne 5, 3), (8, .iconst 0, 1), (9, .ireturn, 1), (10, .aload_n 0, 1), (11, .invokevirtual 197, 3), (14, .aload_n 0, 1), (15, .iconst 1, 1), (16, .invokevirtual 61, 3), (19, .iconst 1, 1), (20, .isub, 1), (21, .istore_n 2, 1), (22, .iconst 4, 1), (23, .iconst 3, 1), (24, .iload_n 1, 1), (25, .imul, 1), (26, .iadd, 1), (27, .istore_n 3, 1), (28, .iload_n 3, 1), (29, .iconst 4, 1), (30, .iconst 3, 1), (31, .iload_n 2, 1), (32, .imul, 1), (33, .iadd, 1), (34, .if_icmp .ge 21, 3), (37, .aload_n 0, 1), (38, .iload_n 3, 1), (39, .aload_n 0, 1), (40, .iload_n 3, 1), (41, .iconst 3, 1), (42, .iadd, 1), (43, .invokevirtual 61, 3), (46, .invokevirtual 200, 3), (49, .iinc 3 1, 3), (52, .goto (-24), 3), (55, .aload_n 0, 1), (56, .iconst 1, 1), (57, .iload_n 2, 1), (58, .invokevirtual 200, 3), (61, .iload_n 2, 1), (62, .ireturn, 1)]
theorem tX11_removeEdge : Tb mX11_removeEdge.2.1 lX11_removeEdge := Tb.of (by decide +kernel)
def lX11_setAbsorbing : List (Nat × Instr × Nat) := [(0, .aload_n 0, 1), (1, .iload_n 1, 1), (2, .invokevirtual 274, 3), (5, .ifCond .ne 5, 3), (8, .iconst 0, 1), (9, .ireturn, 1), (10, .aload_n 0, 1), (11, .invokevirtual 197, 3), (14, .aload_n 0, 1), (15, .iconst 2, 1), (16, .iload_n 2, 1), (17, .ifCond .eq 15, 3), (20, .aload_n 0, 1), (21, .iconst 2, 1), (22, .invokevirtual 61, 3), (25, .iconst 1, 1), (26, .iload_n 1, 1), (27, .ishl, 1), (28, .ior, 1), (29, .goto 14, 3), (32, .aload_n 0, 1), (33, .iconst 2, 1), (34, .invokevirtual 61, 3), (37, .iconst 1, 1), (38, .iload_n 1, 1), (39, .ishl, 1), (40, .iconst (-1), 1), (41, .ixor, 1), (42, .iand, 1), (43, .invokevirtual 200, 3), (46, .aload_n 0, 1), (47, .iconst 2, 1), (48, .invokevirtual 61, 3), (51, .ireturn, 1)]
theorem tX11_setAbsorbing : Tb mX11_setAbsorbing.2.1 lX11_setAbsorbing := Tb.of (by decide +kernel)
def lX11_join : List (Nat × Instr × Nat) := [(0, .aload_n 0, 1), (1, .iload_n 1, 1), (2, .iload_n 2, 1), (3, .invokevirtual 277, 3), (6, .ifCond .ne 5, 3), (9, .iconst 0, 1), (10, .ireturn, 1), (11, .aload_n 0, 1), (12, .invokevirtual 197, 3), (15, .aload_n 0, 1), (16, .bipush 49, 2), (18, .iload_n 2, 1), (19, .iadd, 1), (20, .invokevirtual 61, 3), (23, .istore_n 3, 1), (24, .aload_n 0, 1), (25, .bipush 49, 2), (27, .iload_n 1, 1), (28, .iadd, 1), (29, .invokevirtual 61, 3), (32, .istore 4, 2), (34, .iconst 0, 1), (35, .istore 5, 2), (37, .iload 5, 2), (39, .aload_n 0, 1), (40, .invokevirtual 218, 3), (43, .if_icmp .ge 33, 3), (46, .aload_n 0, 1), (47, .bipush 49, 2), (49, .iload 5, 2), (51, .iadd, 1), (52, .invokevirtual 61, 3), (55, .iload_n 3, 1), (56, .if_icmp .ne 14, 3), (59, .aload_n 0, 1), (60, .bipush 49, 2), (62, .iload 5, 2), (64, .iadd, 1), (65, .iload 4, 2), (67, .invokevirtual 200, 3), (70, .iinc 5 1, 3), (73, .goto (-36), 3), (76, .aload_n 0, 1), (77, .invokevirtual 203, 3), (80, .aload_n 0, 1), (81, .invokevirtual 307, 3), (84, .ireturn, 1)]
theorem tX11_join : Tb mX11_join.2.1 lX11_join := Tb.of (by decide +kernel)
def lX11_separate : List (Nat × Instr × Nat) := [(0, .aload_n 0, 1), (1, .iload_n 1, 1), (2, .invokevirtual 274, 3), (5, .ifCond .ne 5, 3), (8, .iconst 0, 1), (9, .ireturn, 1), (10, .aload_n 0, 1), (11, .invokevirtual 197, 3), (14, .aload_n 0, 1), (15, .bipush 49, 2), (17, .iload_n 1, 1), (18, .iadd, 1), (19, .bipush 6, 2), (21, .invokevirtual 200, 3), (24, .aload_n 0, 1), (25, .invokevirtual 203, 3), (28, .aload_n 0, 1), (29, .invokevirtual 307, 3), (32, .ireturn, 1)]
theorem tX11_separate : Tb mX11_separate.2.1 lX11_separate := Tb.of (by decide +kernel)
def lX11_divides : List (Nat × Instr × Nat) := [(0, .aload_n 0, 1), (1, .invokevirtual 307, 3), (4, .istore_n 1, 1), (5, .iconst 0, 1), (6, .istore_n 2, 1), (7, .iload_n 2, 1), (8, .aload_n 0, 1), (9, .invokevirtual 218, 3), (12, .if_icmp .ge 112, 3), (15, .iload_n 2, 1), (16, .istore_n 3, 1), (17, .iload_n 2, 1), (18, .iconst 1, 1), (19, .isub, 1), (20, .istore 4, 2), (22, .iload 4, 2), (24, .ifCond .lt 87, 3), (27, .aload_n 0, 1), (28, .bipush 49, 2), (30, .iload 4, 2), (32, .iadd, 1), (33, .invokevirtual 61, 3), (36, .aload_n 0, 1), (37, .bipush 49, 2), (39, .iload_n 2, 1), (40, .iadd, 1), (41, .invokevirtual 61, 3), (44, .if_icmp .ne 7, 3), (47, .iconst 1, 1), (48, .goto 4, 3), (51, .iconst 0, 1), (52, .istore 5, 2), (54, .iconst 0, 1), (55, .istore 6, 2), (57, .iload 6, 2), (59, .iload_n 1, 1), (60, .if_icmp .ge 33, 3), (63, .iload 5, 2), (65, .ifCond .eq 28, 3), (68, .aload_n 0, 1), (69, .iload 4, 2), (71, .iload_n 2, 1), (72, .iload 6, 2), (74, .invokevirtual 310, 3), (77, .ifCond .ne 7, 3), (80, .iconst 1, 1), (81, .goto 4, 3), (84, .iconst 0, 1), (85, .istore 5, 2), (87, .iinc 6 1, 3), (90, .goto (-33), 3), (93, .iload 5, 2), (95, .ifCond .eq 8, 3), (98, .iload 4, 2), (100, .goto 4, 3), (103, .iload_n 3, 1), (104, .istore_n 3, 1), (105, .iinc 4 (-1), 3), (108, .goto (-86), 3), (111, .aload_n 0, 1), (112, .getfield 45, 3), (115, .iload_n 2, 1), (116, .iload_n 3, 1), (117, .iastore, 1), (118, .iinc 2 1, 3), (121, .goto (-114), 3), (124, .iconst 0, 1), (125, .istore_n 2, 1), (126, .iload_n 2, 1), (127, .aload_n 0, 1), (128, .invokevirtual 218, 3), (131, .if_icmp .ge 23, 3), (134, .aload_n 0, 1), (135, .bipush 49, 2), (137, .iload_n 2, 1), (138, .iadd, 1), (139, .aload_n 0, 1), (140, .getfield 45, 3), (143, .iload_n 2, 1), (144, .iaload, 1), (145, .invokevirtual 200, 3), (148, .iinc 2 1, 3), (151, .goto (-25), 3), (154, .aload_n 0, 1), (155, .invokevirtual 203, 3), (158, .return_, 1)]
theorem tX11_divides : Tb mX11_divides.2.1 lX11_divides := Tb.of (by decide +kernel)
def lX11_refine : List (Nat × Instr × Nat) := [(0, .aload_n 0, 1), (1, .iconst 0, 1), (2, .putfield 55, 3), (5, .aload_n 0, 1), (6, .invokevirtual 197, 3), (9, .aload_n 0, 1), (10, .invokevirtual 314, 3), (13, .iconst (-1), 1), (14, .if_icmp .eq 10, 3), (17, .aload_n 0, 1), (18, .invokevirtual 342, 3), (21, .goto (-12), 3), (24, .aload_n 0, 1), (25, .invokevirtual 307, 3), (28, .ireturn, 1)]
theorem tX11_refine : Tb mX11_refine.2.1 lX11_refine := Tb.of (by decide +kernel)
def lX11_undo : List (Nat × Instr × Nat) := [(0, .aload_n 0, 1), (1, .iconst 0, 1), (2, .putfield 55, 3), (5, .aload_n 0, 1), (6, .getfield 65, 3), (9, .ifCond .ne 5, 3), (12, .iconst (-1), 1), (13, .ireturn, 1), (14, .aload_n 0, 1), (15, .dup, 1), (16, .getfield 65, 3), (19, .iconst 1, 1), (20, .isub, 1), (21, .putfield 65, 3), (24, .aload_n 0, 1), (25, .aload_n 0, 1), (26, .getfield 58, 3), (29, .bipush 9, 2), (31, .iadd, 1), (32, .iconst 1, 1), (33, .isub, 1), (34, .bipush 9, 2), (36, .irem, 1), (37, .putfield 58, 3), (40, .aload_n 0, 1), (41, .getfield 65, 3), (44, .ireturn, 1)]
theorem tX11_undo : Tb mX11_undo.2.1 lX11_undo := Tb.of (by decide +kernel)
def lX11_checksum : List (Nat × Instr × Nat) := [(0, .aload_n 0, 1), (1, .iconst 0, 1), (2, .putfield 55, 3), (5, .ldc2_w 345, 3), (8, .aload_n 0, 1), (9, .invokevirtual 218, 3), (12, .i2l, 1), (13, .lmul, 1), (14, .aload_n 0, 1), (15, .iconst 2, 1), (16, .invokevirtual 61, 3), (19, .i2l, 1), (20, .ladd, 1), (21, .lstore_n 1, 1), (22, .iconst 0, 1), (23, .istore_n 3, 1), (24, .iload_n 3, 1), (25, .aload_n 0, 1), (26, .iconst 1, 1), (27, .invokevirtual 61, 3), (30, .if_icmp .ge 44, 3), (33, .iconst 0, 1), (34, .istore 4, 2), (36, .iload 4, 2), (38, .iconst 3, 1), (39, .if_icmp .ge 29, 3), (42, .ldc2_w 345, 3), (45, .lload_n 1, 1), (46, .lmul, 1), (47, .aload_n 0, 1), (48, .iconst 4, 1), (49, .iconst 3, 1), (50, .iload_n 3, 1), (51, .imul, 1), (52, .iadd, 1), (53, .iload 4, 2), (55, .iadd, 1), (56, .invokevirtual 61, 3), (59, .i2l, 1), (60, .ladd, 1), (61, .lstore_n 1, 1), (62, .iinc 4 1, 3), (65, .goto (-29), 3), (68, .iinc 3 1, 3), (71, .goto (-47), 3), (74, .iconst 0, 1), (75, .istore_n 3, 1), (76, .iload_n 3, 1), (77, .aload_n 0, 1), (78, .invokevirtual 218, 3), (81, .if_icmp .ge 25, 3), (84, .ldc2_w 345, 3), (87, .lload_n 1, 1), (88, .lmul, 1), (89, .aload_n 0, 1), (90, .bipush 49, 2), (92, .iload_n 3, 1), (93, .iadd, 1), (94, .invokevirtual 61, 3), (97, .i2l, 1), (98, .ladd, 1), (99, .lstore_n 1, 1), (100, .iinc 3 1, 3), (103, .goto (-27), 3), (106, .ldc2_w 345, 3), (109, .lload_n 1, 1), (110, .lmul, 1), (111, .aload_n 0, 1), (112, .invokevirtual 297, 3), (115, .ladd, 1), (116, .lreturn, 1)]
theorem tX11_checksum : Tb mX11_checksum.2.1 lX11_checksum := Tb.of (by decide +kernel)
def lJ9_abs_067f4 : List (Nat × Instr × Nat) := [(0, .lload_n 0, 1), (1, .lconst 0, 1), (2, .lcmp, 1), (3, .ifCond .ge 8, 3), (6, .lload_n 0, 1), (7, .lneg, 1), (8, .goto 4, 3), (11, .lload_n 0, 1), (12, .lreturn, 1)]
theorem tJ9_abs_067f4 : Tb mJ9_abs_067f4.2.1 lJ9_abs_067f4 := Tb.of (by decide +kernel)
def lJ9_max_7cf53 : List (Nat × Instr × Nat) := [(0, .iload_n 0, 1), (1, .iload_n 1, 1), (2, .if_icmp .lt 7, 3), (5, .iload_n 0, 1), (6, .goto 4, 3), (9, .iload_n 1, 1), (10, .ireturn, 1)]
theorem tJ9_max_7cf53 : Tb mJ9_max_7cf53.2.1 lJ9_max_7cf53 := Tb.of (by decide +kernel)
def lJ9_max_f86c9 : List (Nat × Instr × Nat) := [(0, .lload_n 0, 1), (1, .lload_n 2, 1), (2, .lcmp, 1), (3, .ifCond .lt 7, 3), (6, .lload_n 0, 1), (7, .goto 4, 3), (10, .lload_n 2, 1), (11, .lreturn, 1)]
theorem tJ9_max_f86c9 : Tb mJ9_max_f86c9.2.1 lJ9_max_f86c9 := Tb.of (by decide +kernel)
def lJ9_min_7cf53 : List (Nat × Instr × Nat) := [(0, .iload_n 0, 1), (1, .iload_n 1, 1), (2, .if_icmp .gt 7, 3), (5, .iload_n 0, 1), (6, .goto 4, 3), (9, .iload_n 1, 1), (10, .ireturn, 1)]
theorem tJ9_min_7cf53 : Tb mJ9_min_7cf53.2.1 lJ9_min_7cf53 := Tb.of (by decide +kernel)
def lJ9_min_f86c9 : List (Nat × Instr × Nat) := [(0, .lload_n 0, 1), (1, .lload_n 2, 1), (2, .lcmp, 1), (3, .ifCond .gt 7, 3), (6, .lload_n 0, 1), (7, .goto 4, 3), (10, .lload_n 2, 1), (11, .lreturn, 1)]
theorem tJ9_min_f86c9 : Tb mJ9_min_f86c9.2.1 lJ9_min_f86c9 := Tb.of (by decide +kernel)
def lJ0_length_8abf5 : List (Nat × Instr × Nat) := [(0, .aload_n 0, 1), (1, .getfield 9, 3), (4, .arraylength, 1), (5, .aload_n 0, 1), (6, .invokevirtual 335, 3), (9, .ishr, 1), (10, .ireturn, 1)]
theorem tJ0_length_8abf5 : Tb mJ0_length_8abf5.2.1 lJ0_length_8abf5 := Tb.of (by decide +kernel)
def lJ0_charAt_5068e : List (Nat × Instr × Nat) := [(0, .aload_n 0, 1), (1, .invokevirtual 492, 3), (4, .ifCond .eq 12, 3), (7, .aload_n 0, 1), (8, .getfield 9, 3), (11, .iload_n 1, 1), (12, .invokestatic 495, 3), (15, .ireturn, 1), (16, .aload_n 0, 1), (17, .getfield 9, 3), (20, .iload_n 1, 1), (21, .invokestatic 498, 3), (24, .ireturn, 1)]
theorem tJ0_charAt_5068e : Tb mJ0_charAt_5068e.2.1 lJ0_charAt_5068e := Tb.of (by decide +kernel)
def lJ0_coder_7d493 : List (Nat × Instr × Nat) := [(0, .getstatic 38, 3), (3, .ifCond .eq 10, 3), (6, .aload_n 0, 1), (7, .getfield 15, 3), (10, .goto 4, 3), (13, .iconst 1, 1), (14, .ireturn, 1)]
theorem tJ0_coder_7d493 : Tb mJ0_coder_7d493.2.1 lJ0_coder_7d493 := Tb.of (by decide +kernel)
def lJ0_isLatin1_aae02 : List (Nat × Instr × Nat) := [(0, .getstatic 38, 3), (3, .ifCond .eq 14, 3), (6, .aload_n 0, 1), (7, .getfield 15, 3), (10, .ifCond .ne 7, 3), (13, .iconst 1, 1), (14, .goto 4, 3), (17, .iconst 0, 1), (18, .ireturn, 1)]
theorem tJ0_isLatin1_aae02 : Tb mJ0_isLatin1_aae02.2.1 lJ0_isLatin1_aae02 := Tb.of (by decide +kernel)
def lJ0_checkIndex_df160 : List (Nat × Instr × Nat) := [(0, .iload_n 0, 1), (1, .iload_n 1, 1), (2, .getstatic 1053, 3), (5, .invokestatic 1059, 3), (8, .pop, 1), (9, .return_, 1)]
theorem tJ0_checkIndex_df160 : Tb mJ0_checkIndex_df160.2.1 lJ0_checkIndex_df160 := Tb.of (by decide +kernel)
def lJ1_charAt_3b067 : List (Nat × Instr × Nat) := [(0, .iload_n 1, 1), (1, .aload_n 0, 1), (2, .arraylength, 1), (3, .invokestatic 9, 3), (6, .aload_n 0, 1), (7, .iload_n 1, 1), (8, .baload, 1), (9, .sipush 255, 3), (12, .iand, 1), (13, .i2c, 1), (14, .ireturn, 1)]
theorem tJ1_charAt_3b067 : Tb mJ1_charAt_3b067.2.1 lJ1_charAt_3b067 := Tb.of (by decide +kernel)
def lJ2_getChar_3b067 : List (Nat × Instr × Nat) := [(0, .getstatic 44, 3), (3, .ifCond .ne 25, 3), (6, .iload_n 1, 1), (7, .ifCond .lt 11, 3), (10, .iload_n 1, 1), (11, .aload_n 0, 1), (12, .invokestatic 48, 3), (15, .if_icmp .lt 13, 3), (18, .new 52, 3), (21, .dup, 1), (22, .ldc 54, 2), (24, .invokespecial 56, 3), (27, .athrow, 1), (28, .iload_n 1, 1), (29, .iconst 1, 1), (30, .ishl, 1), (31, .istore_n 1, 1), (32, .aload_n 0, 1), (33, .iload_n 1, 1), (34, .iinc 1 1, 3), (37, .baload, 1), (38, .sipush 255, 3), (41, .iand, 1), (42, .getstatic 59, 3), (45, .ishl, 1), (46, .aload_n 0, 1), (47, .iload_n 1, 1), (48, .baload, 1), (49, .sipush 255, 3), (52, .iand, 1), (53, .getstatic 63, 3), (56, .ishl, 1), (57, .ior, 1), (58, .i2c, 1), (59, .ireturn, 1)]
theorem tJ2_getChar_3b067 : Tb mJ2_getChar_3b067.2.1 lJ2_getChar_3b067 := Tb.of (by decide +kernel)
def lJ2_length_9d52b : List (Nat × Instr × Nat) := [(0, .aload_n 0, 1), (1, .arraylength, 1), (2, .iconst 1, 1), (3, .ishr, 1), (4, .ireturn, 1)]
theorem tJ2_length_9d52b : Tb mJ2_length_9d52b.2.1 lJ2_length_9d52b := Tb.of (by decide +kernel)
def lJ2_charAt_3b067 : List (Nat × Instr × Nat) := [(0, .iload_n 1, 1), (1, .aload_n 0, 1), (2, .invokestatic 67, 3), (5, .aload_n 0, 1), (6, .iload_n 1, 1), (7, .invokestatic 71, 3), (10, .ireturn, 1)]
theorem tJ2_charAt_3b067 : Tb mJ2_charAt_3b067.2.1 lJ2_charAt_3b067 := Tb.of (by decide +kernel)
def lJ2_checkIndex_2214a : List (Nat × Instr × Nat) := [(0, .iload_n 0, 1), (1, .aload_n 1, 1), (2, .invokestatic 48, 3), (5, .invokestatic 414, 3), (8, .return_, 1)]
theorem tJ2_checkIndex_2214a : Tb mJ2_checkIndex_2214a.2.1 lJ2_checkIndex_2214a := Tb.of (by decide +kernel)
def lJ7_fill_d0a16 : List (Nat × Instr × Nat) := [(0, .iconst 0, 1), (1, .istore_n 3, 1), (2, .aload_n 0, 1), (3, .arraylength, 1), (4, .istore 4, 2), (6, .iload_n 3, 1), (7, .iload 4, 2), (9, .if_icmp .ge 13, 3), (12, .aload_n 0, 1), (13, .iload_n 3, 1), (14, .lload_n 1, 1), (15, .lastore, 1), (16, .iinc 3 1, 3), (19, .goto (-13), 3), (22, .return_, 1)]
theorem tJ7_fill_d0a16 : Tb mJ7_fill_d0a16.2.1 lJ7_fill_d0a16 := Tb.of (by decide +kernel)
def lJ7_fill_53178 : List (Nat × Instr × Nat) := [(0, .iconst 0, 1), (1, .istore_n 2, 1), (2, .aload_n 0, 1), (3, .arraylength, 1), (4, .istore_n 3, 1), (5, .iload_n 2, 1), (6, .iload_n 3, 1), (7, .if_icmp .ge 13, 3), (10, .aload_n 0, 1), (11, .iload_n 2, 1), (12, .iload_n 1, 1), (13, .iastore, 1), (14, .iinc 2 1, 3), (17, .goto (-12), 3), (20, .return_, 1)]
theorem tJ7_fill_53178 : Tb mJ7_fill_53178.2.1 lJ7_fill_53178 := Tb.of (by decide +kernel)
def lJ7_copyOf_59c91 : List (Nat × Instr × Nat) := [(0, .iload_n 1, 1), (1, .aload_n 0, 1), (2, .arraylength, 1), (3, .if_icmp .ne 11, 3), (6, .aload_n 0, 1), (7, .invokevirtual 316, 3), (10, .checkcast 317, 3), (13, .areturn, 1), (14, .iload_n 1, 1), (15, .newarray .int, 2), (17, .astore_n 2, 1), (18, .aload_n 0, 1), (19, .iconst 0, 1), (20, .aload_n 2, 1), (21, .iconst 0, 1), (22, .aload_n 0, 1), (23, .arraylength, 1), (24, .iload_n 1, 1), (25, .invokestatic 304, 3), (28, .invokestatic 150, 3), (31, .aload_n 2, 1), (32, .areturn, 1)]
theorem tJ7_copyOf_59c91 : Tb mJ7_copyOf_59c91.2.1 lJ7_copyOf_59c91 := Tb.of (by decide +kernel)
def lJ3_checkIndex_8e157 : List (Nat × Instr × Nat) := [(0, .iload_n 0, 1), (1, .ifCond .lt 8, 3), (4, .iload_n 0, 1), (5, .iload_n 1, 1), (6, .if_icmp .lt 10, 3), (9, .aload_n 2, 1), (10, .iload_n 0, 1), (11, .iload_n 1, 1), (12, .invokestatic 95, 3), (15, .athrow, 1), (16, .iload_n 0, 1), (17, .ireturn, 1)]
theorem tJ3_checkIndex_8e157 : Tb mJ3_checkIndex_8e157.2.1 lJ3_checkIndex_8e157 := Tb.of (by decide +kernel)
def lL_load : List (Nat × Instr × Nat) := [(0, .aload_n 2, 1), (1, .iconst 0, 1), (2, .aload_n 0, 1), (3, .iload_n 1, 1), (4, .invokevirtual 7, 3), (7, .i2l, 1), (8, .lastore, 1), (9, .goto 6, 3), (12, .astore_n 3, 1), (13, .iconst 1, 1), (14, .ireturn, 1), (15, .iconst 0, 1), (16, .ireturn, 1)]
theorem tL_load : Tb mL_load.2.1 lL_load := Tb.of (by decide +kernel)
def lL_edge : List (Nat × Instr × Nat) := [(0, .aload_n 3, 1), (1, .iconst 0, 1), (2, .aload_n 0, 1), (3, .iload_n 1, 1), (4, .iload_n 2, 1), (5, .invokevirtual 15, 3), (8, .i2l, 1), (9, .lastore, 1), (10, .goto 11, 3), (13, .astore 4, 2), (15, .iconst 1, 1), (16, .ireturn, 1), (17, .astore 4, 2), (19, .iconst 2, 1), (20, .ireturn, 1), (21, .iconst 0, 1), (22, .ireturn, 1)]
theorem tL_edge : Tb mL_edge.2.1 lL_edge := Tb.of (by decide +kernel)
def lL_degree : List (Nat × Instr × Nat) := [(0, .aload_n 2, 1), (1, .iconst 0, 1), (2, .aload_n 0, 1), (3, .iload_n 1, 1), (4, .invokevirtual 21, 3), (7, .i2l, 1), (8, .lastore, 1), (9, .goto 6, 3), (12, .astore_n 3, 1), (13, .iconst 1, 1), (14, .ireturn, 1), (15, .iconst 0, 1), (16, .ireturn, 1)]
theorem tL_degree : Tb mL_degree.2.1 lL_degree := Tb.of (by decide +kernel)
def lL_reachable : List (Nat × Instr × Nat) := [(0, .aload_n 2, 1), (1, .iconst 0, 1), (2, .aload_n 0, 1), (3, .iload_n 1, 1), (4, .invokevirtual 24, 3), (7, .i2l, 1), (8, .lastore, 1), (9, .goto 6, 3), (12, .astore_n 3, 1), (13, .iconst 1, 1), (14, .ireturn, 1), (15, .iconst 0, 1), (16, .ireturn, 1)]
theorem tL_reachable : Tb mL_reachable.2.1 lL_reachable := Tb.of (by decide +kernel)
def lL_transition : List (Nat × Instr × Nat) := [(0, .aload 4, 2), (2, .iconst 0, 1), (3, .aload_n 0, 1), (4, .iload_n 1, 1), (5, .iload_n 2, 1), (6, .iload_n 3, 1), (7, .invokevirtual 27, 3), (10, .i2l, 1), (11, .lastore, 1), (12, .goto 7, 3), (15, .astore 5, 2), (17, .iconst 1, 1), (18, .ireturn, 1), (19, .iconst 0, 1), (20, .ireturn, 1)]
theorem tL_transition : Tb mL_transition.2.1 lL_transition := Tb.of (by decide +kernel)
def lL_hittingTime : List (Nat × Instr × Nat) := [(0, .aload 4, 2), (2, .iconst 0, 1), (3, .aload_n 0, 1), (4, .iload_n 1, 1), (5, .iload_n 2, 1), (6, .iload_n 3, 1), (7, .invokevirtual 31, 3), (10, .lastore, 1), (11, .goto 11, 3), (14, .astore 5, 2), (16, .iconst 1, 1), (17, .ireturn, 1), (18, .astore 5, 2), (20, .iconst 2, 1), (21, .ireturn, 1), (22, .iconst 0, 1), (23, .ireturn, 1)]
theorem tL_hittingTime : Tb mL_hittingTime.2.1 lL_hittingTime := Tb.of (by decide +kernel)
def lL_hittingCost : List (Nat × Instr × Nat) := [(0, .aload 4, 2), (2, .iconst 0, 1), (3, .aload_n 0, 1), (4, .iload_n 1, 1), (5, .iload_n 2, 1), (6, .iload_n 3, 1), (7, .invokevirtual 37, 3), (10, .lastore, 1), (11, .goto 11, 3), (14, .astore 5, 2), (16, .iconst 1, 1), (17, .ireturn, 1), (18, .astore 5, 2), (20, .iconst 2, 1), (21, .ireturn, 1), (22, .iconst 0, 1), (23, .ireturn, 1)]
theorem tL_hittingCost : Tb mL_hittingCost.2.1 lL_hittingCost := Tb.of (by decide +kernel)
def lL_commuteTime : List (Nat × Instr × Nat) := [(0, .aload 4, 2), (2, .iconst 0, 1), (3, .aload_n 0, 1), (4, .iload_n 1, 1), (5, .iload_n 2, 1), (6, .iload_n 3, 1), (7, .invokevirtual 40, 3), (10, .lastore, 1), (11, .goto 11, 3), (14, .astore 5, 2), (16, .iconst 1, 1), (17, .ireturn, 1), (18, .astore 5, 2), (20, .iconst 2, 1), (21, .ireturn, 1), (22, .iconst 0, 1), (23, .ireturn, 1)]
theorem tL_commuteTime : Tb mL_commuteTime.2.1 lL_commuteTime := Tb.of (by decide +kernel)
def lL_resistance : List (Nat × Instr × Nat) := [(0, .aload 4, 2), (2, .iconst 0, 1), (3, .aload_n 0, 1), (4, .iload_n 1, 1), (5, .iload_n 2, 1), (6, .iload_n 3, 1), (7, .invokevirtual 43, 3), (10, .lastore, 1), (11, .goto 11, 3), (14, .astore 5, 2), (16, .iconst 1, 1), (17, .ireturn, 1), (18, .astore 5, 2), (20, .iconst 2, 1), (21, .ireturn, 1), (22, .iconst 0, 1), (23, .ireturn, 1)]
theorem tL_resistance : Tb mL_resistance.2.1 lL_resistance := Tb.of (by decide +kernel)
def lL_absorption : List (Nat × Instr × Nat) := [(0, .aload 4, 2), (2, .iconst 0, 1), (3, .aload_n 0, 1), (4, .iload_n 1, 1), (5, .iload_n 2, 1), (6, .iload_n 3, 1), (7, .invokevirtual 46, 3), (10, .lastore, 1), (11, .goto 15, 3), (14, .astore 5, 2), (16, .iconst 1, 1), (17, .ireturn, 1), (18, .astore 5, 2), (20, .iconst 2, 1), (21, .ireturn, 1), (22, .astore 5, 2), (24, .iconst 3, 1), (25, .ireturn, 1), (26, .iconst 0, 1), (27, .ireturn, 1)]
theorem tL_absorption : Tb mL_absorption.2.1 lL_absorption := Tb.of (by decide +kernel)
def lL_absorptionTime : List (Nat × Instr × Nat) := [(0, .aload_n 3, 1), (1, .iconst 0, 1), (2, .aload_n 0, 1), (3, .iload_n 1, 1), (4, .iload_n 2, 1), (5, .invokevirtual 49, 3), (8, .lastore, 1), (9, .goto 11, 3), (12, .astore 4, 2), (14, .iconst 1, 1), (15, .ireturn, 1), (16, .astore 4, 2), (18, .iconst 2, 1), (19, .ireturn, 1), (20, .iconst 0, 1), (21, .ireturn, 1)]
theorem tL_absorptionTime : Tb mL_absorptionTime.2.1 lL_absorptionTime := Tb.of (by decide +kernel)
def lL_blockOf : List (Nat × Instr × Nat) := [(0, .aload_n 2, 1), (1, .iconst 0, 1), (2, .aload_n 0, 1), (3, .iload_n 1, 1), (4, .invokevirtual 53, 3), (7, .i2l, 1), (8, .lastore, 1), (9, .goto 6, 3), (12, .astore_n 3, 1), (13, .iconst 1, 1), (14, .ireturn, 1), (15, .iconst 0, 1), (16, .ireturn, 1)]
theorem tL_blockOf : Tb mL_blockOf.2.1 lL_blockOf := Tb.of (by decide +kernel)
def lL_lumped : List (Nat × Instr × Nat) := [(0, .aload 4, 2), (2, .iconst 0, 1), (3, .aload_n 0, 1), (4, .iload_n 1, 1), (5, .iload_n 2, 1), (6, .iload_n 3, 1), (7, .invokevirtual 56, 3), (10, .i2l, 1), (11, .lastore, 1), (12, .goto 11, 3), (15, .astore 5, 2), (17, .iconst 1, 1), (18, .ireturn, 1), (19, .astore 5, 2), (21, .iconst 2, 1), (22, .ireturn, 1), (23, .iconst 0, 1), (24, .ireturn, 1)]
theorem tL_lumped : Tb mL_lumped.2.1 lL_lumped := Tb.of (by decide +kernel)
def lL_lumpedTime : List (Nat × Instr × Nat) := [(0, .aload 4, 2), (2, .iconst 0, 1), (3, .aload_n 0, 1), (4, .iload_n 1, 1), (5, .iload_n 2, 1), (6, .iload_n 3, 1), (7, .invokevirtual 59, 3), (10, .lastore, 1), (11, .goto 11, 3), (14, .astore 5, 2), (16, .iconst 1, 1), (17, .ireturn, 1), (18, .astore 5, 2), (20, .iconst 2, 1), (21, .ireturn, 1), (22, .iconst 0, 1), (23, .ireturn, 1)]
theorem tL_lumpedTime : Tb mL_lumpedTime.2.1 lL_lumpedTime := Tb.of (by decide +kernel)
def lL_after : List (Nat × Instr × Nat) := [(0, .aload 4, 2), (2, .iconst 0, 1), (3, .aload_n 0, 1), (4, .iload_n 1, 1), (5, .iload_n 2, 1), (6, .iload_n 3, 1), (7, .invokevirtual 62, 3), (10, .f2d, 1), (11, .dastore, 1), (12, .goto 11, 3), (15, .astore 5, 2), (17, .iconst 1, 1), (18, .ireturn, 1), (19, .astore 5, 2), (21, .iconst 2, 1), (22, .ireturn, 1), (23, .iconst 0, 1), (24, .ireturn, 1)]
theorem tL_after : Tb mL_after.2.1 lL_after := Tb.of (by decide +kernel)
def lL_walk : List (Nat × Instr × Nat) := [(0, .aload 5, 2), (2, .iconst 0, 1), (3, .aload_n 0, 1), (4, .iload_n 1, 1), (5, .iload_n 2, 1), (6, .iload_n 3, 1), (7, .iload 4, 2), (9, .invokevirtual 66, 3), (12, .i2l, 1), (13, .lastore, 1), (14, .goto 11, 3), (17, .astore 6, 2), (19, .iconst 1, 1), (20, .ireturn, 1), (21, .astore 6, 2), (23, .iconst 2, 1), (24, .ireturn, 1), (25, .iconst 0, 1), (26, .ireturn, 1)]
theorem tL_walk : Tb mL_walk.2.1 lL_walk := Tb.of (by decide +kernel)
def lL_setWeight : List (Nat × Instr × Nat) := [(0, .aload_n 3, 1), (1, .iconst 0, 1), (2, .aload_n 0, 1), (3, .iload_n 1, 1), (4, .iload_n 2, 1), (5, .invokevirtual 70, 3), (8, .i2l, 1), (9, .lastore, 1), (10, .goto 11, 3), (13, .astore 4, 2), (15, .iconst 1, 1), (16, .ireturn, 1), (17, .astore 4, 2), (19, .iconst 2, 1), (20, .ireturn, 1), (21, .iconst 0, 1), (22, .ireturn, 1)]
theorem tL_setWeight : Tb mL_setWeight.2.1 lL_setWeight := Tb.of (by decide +kernel)
def lL_addEdge : List (Nat × Instr × Nat) := [(0, .aload 4, 2), (2, .iconst 0, 1), (3, .aload_n 0, 1), (4, .iload_n 1, 1), (5, .iload_n 2, 1), (6, .iload_n 3, 1), (7, .invokevirtual 73, 3), (10, .i2l, 1), (11, .lastore, 1), (12, .goto 15, 3), (15, .astore 5, 2), (17, .iconst 1, 1), (18, .ireturn, 1), (19, .astore 5, 2), (21, .iconst 2, 1), (22, .ireturn, 1), (23, .astore 5, 2), (25, .iconst 3, 1), (26, .ireturn, 1), (27, .iconst 0, 1), (28, .ireturn, 1)]
theorem tL_addEdge : Tb mL_addEdge.2.1 lL_addEdge := Tb.of (by decide +kernel)
def lL_removeEdge : List (Nat × Instr × Nat) := [(0, .aload_n 2, 1), (1, .iconst 0, 1), (2, .aload_n 0, 1), (3, .iload_n 1, 1), (4, .invokevirtual 77, 3), (7, .i2l, 1), (8, .lastore, 1), (9, .goto 6, 3), (12, .astore_n 3, 1), (13, .iconst 1, 1), (14, .ireturn, 1), (15, .iconst 0, 1), (16, .ireturn, 1)]
theorem tL_removeEdge : Tb mL_removeEdge.2.1 lL_removeEdge := Tb.of (by decide +kernel)
def lL_setAbsorbing : List (Nat × Instr × Nat) := [(0, .aload_n 3, 1), (1, .iconst 0, 1), (2, .aload_n 0, 1), (3, .iload_n 1, 1), (4, .iload_n 2, 1), (5, .invokevirtual 80, 3), (8, .i2l, 1), (9, .lastore, 1), (10, .goto 7, 3), (13, .astore 4, 2), (15, .iconst 1, 1), (16, .ireturn, 1), (17, .iconst 0, 1), (18, .ireturn, 1)]
theorem tL_setAbsorbing : Tb mL_setAbsorbing.2.1 lL_setAbsorbing := Tb.of (by decide +kernel)
def lL_join : List (Nat × Instr × Nat) := [(0, .aload_n 3, 1), (1, .iconst 0, 1), (2, .aload_n 0, 1), (3, .iload_n 1, 1), (4, .iload_n 2, 1), (5, .invokevirtual 84, 3), (8, .i2l, 1), (9, .lastore, 1), (10, .goto 7, 3), (13, .astore 4, 2), (15, .iconst 1, 1), (16, .ireturn, 1), (17, .iconst 0, 1), (18, .ireturn, 1)]
theorem tL_join : Tb mL_join.2.1 lL_join := Tb.of (by decide +kernel)
def lL_separate : List (Nat × Instr × Nat) := [(0, .aload_n 2, 1), (1, .iconst 0, 1), (2, .aload_n 0, 1), (3, .iload_n 1, 1), (4, .invokevirtual 87, 3), (7, .i2l, 1), (8, .lastore, 1), (9, .goto 6, 3), (12, .astore_n 3, 1), (13, .iconst 1, 1), (14, .ireturn, 1), (15, .iconst 0, 1), (16, .ireturn, 1)]
theorem tL_separate : Tb mL_separate.2.1 lL_separate := Tb.of (by decide +kernel)
end
section
/-! ===== small things for all modules ===== -/
section
variable {v : Ev} {M : Md} {R : Room} {K : List Frame → Array Value → State → State → Prop} {t0 cells slots : Nat} {h : Hp} {top pc : Nat} {ls : List (Option Value)} {st : List Value}
theorem r_ls (ls2 : List (Option Value)) (e : ls = ls2) (k : J v M R K t0 cells slots h top pc ls2 st) : J v M R K t0 cells slots h top pc ls st := e ▸ k
/-- the same judgement told otherwise -/
theorem r_eq {h2 : Hp} {st2 : List Value} (eh : h = h2) (es : st = st2) (k : J v M R K t0 cells slots h2 top pc ls st2) : J v M R K t0 cells slots h top pc ls st := by
  subst eh; subst es; exact k
end
def pR (w : Value) (h : Hp) (top : Nat) : Option Value → Hp → Nat → Prop := fun r h' top' => r = some w ∧ h = h' ∧ top = top'
def pV (h : Hp) (top : Nat) : Option Value → Hp → Nat → Prop := fun r h' top' => r = none ∧ h = h' ∧ top = top'
def iF (f : Nat → Nat) : Nat → Int32 := fun k => nI (f k)
def upN (f : Nat → Nat) (i x : Nat) : Nat → Nat := fun k => if k = i then x else f k
theorem upN_eq (f : Nat → Nat) (i x : Nat) : upN f i x i = x := if_pos rfl
theorem upN_ne (f : Nat → Nat) {i k : Nat} (x : Nat) (n : k ≠ i) : upN f i x k = f k := if_neg n
theorem upd_iF (f : Nat → Nat) (i x : Nat) : upd (iF f) i (nI x) = iF (upN f i x) := by
  funext k
  unfold upd iF upN
  split <;> rfl
def sN (f : Nat → Nat) : Nat → Nat
  | 0 => 0
  | n + 1 => sN f n + f n
theorem sN_le {f : Nat → Nat} {c : Nat} : ∀ n, (∀ k, k < n → f k ≤ c) → sN f n ≤ n * c
  | 0, _ => by simp [sN]
  | n + 1, hh => by
    have h1 := sN_le n (fun k hk => hh k (by omega))
    have h2 := hh n (by omega)
    rw [sN, Nat.succ_mul]
    omega
theorem sN_cong {f g : Nat → Nat} : ∀ n, (∀ k, k < n → f k = g k) → sN f n = sN g n
  | 0, _ => rfl
  | n + 1, hh => by rw [sN, sN, sN_cong n (fun k hk => hh k (by omega)), hh n (by omega)]
theorem lit_nI (n : Nat) : (OfNat.ofNat n : Int32) = nI n := rfl
theorem W_cap {p : Program} {l : Launch} {e : Env} {R : Room} {s : State} {m : MethodId} {args : Array Value} {below : List Frame} {meth : Method} {c : Code} {H : Heap} {locs : List Loc} {cells slots : Nat} {Q : State → Prop} {g : JFrame}
    (k : H.size ≤ s.heap.size + cells → W p l e R s m args below meth c H locs cells slots Q g) : W p l e R s m args below meth c H locs cells slots Q g :=
  fun T hT X => k (by rw [← hT]; exact X.heapSize) T hT X
/-- the whole picture as a list -/
def wsOf (h : Hp) (top : Nat) : va_W := (List.range top).filterMap (fun a => (h a).map (fun e => (a, e)))
theorem wsOf_mem {h : Hp} {top : Nat} {q : Nat × va_E} : q ∈ wsOf h top ↔ q.1 < top ∧ h q.1 = some q.2 := by
  unfold wsOf
  rw [List.mem_filterMap]
  constructor
  · rintro ⟨a, ha, hq⟩
    cases hh : h a with
    | none => rw [hh] at hq; cases hq
    | some e =>
      rw [hh] at hq
      cases hq
      exact ⟨List.mem_range.mp ha, hh⟩
  · rintro ⟨h1, h2⟩
    exact ⟨q.1, List.mem_range.mpr h1, by rw [h2]; rfl⟩
theorem wsOf_lt (h : Hp) (top : Nat) : (wsOf h top).Pairwise (fun p q => p.1 < q.1) := by
  unfold wsOf
  rw [List.pairwise_filterMap]
  refine List.Pairwise.imp ?_ List.pairwise_lt_range
  intro a b hab x hx y hy
  cases ha : h a with
  | none => rw [ha] at hx; cases hx
  | some e =>
    cases hb : h b with
    | none => rw [hb] at hy; cases hy
    | some e2 =>
      rw [ha] at hx
      rw [hb] at hy
      cases hx
      cases hy
      exact hab
theorem wsOf_D {v : Ev} {h : Hp} {top : Nat} (hz : ∀ a e, h a = some e → z0 v ≤ a) : va_D (Ar v) (wsOf h top) := by
  refine ⟨fun i j p q hi hj hpq => ?_, fun k q hk => hz q.1 q.2 (wsOf_mem.mp (List.mem_of_getElem? hk)).2⟩
  obtain ⟨li, ei⟩ := List.getElem?_eq_some_iff.mp hi
  obtain ⟨lj, ej⟩ := List.getElem?_eq_some_iff.mp hj
  have hp := List.pairwise_iff_getElem.mp (wsOf_lt h top)
  rcases Nat.lt_trichotomy i j with q1 | q1 | q1
  · have := hp i j li lj q1
    rw [ei, ej] at this
    omega
  · exact q1
  · have := hp j i lj li q1
    rw [ei, ej] at this
    omega
theorem wsOf_P {v : Ev} {h : Hp} {top : Nat} {H : Heap} (hH : Hh v h H) : va_P v.1 vwCl (wsOf h top) H := fun k q hk => by
  obtain ⟨-, h2⟩ := wsOf_mem.mp (List.mem_of_getElem? hk)
  exact (hH q.1 q.2 h2).2
theorem wsOf_set {v : Ev} {h : Hp} {top : Nat} {H H1 : Heap} {k a : Nat} {e0 e : va_E} (hH : Hh v h H) (hz : H.size = top) (hk : (wsOf h top)[k]? = some (a, e0)) (hP : va_P v.1 vwCl ((wsOf h top).set k (a, e)) H1) : Hh v (hp h a e) H1 := by
  have hkl := (List.getElem?_eq_some_iff.mp hk).1
  intro q e' hq
  by_cases hqa : q = a
  · subst hqa
    rw [hp_eq] at hq
    cases hq
    exact ⟨(hH q e0 (wsOf_mem.mp (List.mem_of_getElem? hk)).2).1, hP k (q, e) (by rw [List.getElem?_set_self hkl])⟩
  · rw [hp_ne h e hqa] at hq
    refine ⟨(hH q e' hq).1, ?_⟩
    obtain ⟨i, hi⟩ := List.getElem?_of_mem (wsOf_mem (h := h) (top := top) (q := (q, e')) |>.mpr ⟨by rw [← hz]; exact hH.lt hq, hq⟩)
    refine hP i (q, e') ?_
    rw [List.getElem?_set_ne]
    · exact hi
    · intro hik
      subst hik
      rw [hk] at hi
      cases hi
      exact hqa rfl
def cpF {α : Type} (f g : Nat → α) (n : Nat) : Nat → α := fun k => if k < n then f k else g k
theorem cpF_cpy {α : Type} (f g : Nat → α) (n : Nat) : va_cpy f g 0 0 n = cpF f g n := by
  funext k
  unfold va_cpy cpF
  simp
section
variable {v : Ev} {M : Md} {R : Room} {K : List Frame → Array Value → State → State → Prop} {t0 cells slots : Nat} {h : Hp} {top pc : Nat} {ls : List (Option Value)} {st : List Value}
theorem r_acopyI {idx a0 a n0 n1 : Nat} {f g : Nat → Int32} {x y z : Int32} (n : Nat) (d : decode M.2.1 pc = .ok (.invokestatic idx, 3)) (hlk : Cond.methodLink M.1.cls idx arraycopyName ∈ big) (ha0 : h a0 = some (aI v n0 f)) (ha1 : h a = some (aI v n1 g)) (ne : a0 ≠ a) (hx : x = nI n) (hy : y = nI 0) (hzz : z = nI 0) (h0 : n ≤ n0) (h1 : n ≤ n1) (hN : n ≤ 65536) (ht : t0 + cells ≤ top)
    (hf : 1 ≤ R.frames) (hl2 : (st.map fun w => w.category).sum + (nativeFrameWords "java/lang/System" "arraycopy" 5 + 11) ≤ R.locals)
    (kk : J v M R K t0 cells slots (hp h a (aI v n1 (cpF f g n))) top (pc + 3) ls st) : J v M R K t0 cells slots h top pc ls (.int x :: .int y :: .ref a :: .int z :: .ref a0 :: st) := by
  intro p l e s m args below meth c F H locs A hz hH hS hl
  obtain ⟨k0, hk0⟩ := List.getElem?_of_mem (wsOf_mem (h := h) (top := top) (q := (a0, aI v n0 f)) |>.mpr ⟨by rw [← hz]; exact hH.lt ha0, ha0⟩)
  obtain ⟨k1, hk1⟩ := List.getElem?_of_mem (wsOf_mem (h := h) (top := top) (q := (a, aI v n1 g)) |>.mpr ⟨by rw [← hz]; exact hH.lt ha1, ha1⟩)
  have hst : s.heap.size = t0 := by
    obtain ⟨-, -, -, -, -, -, -, -, -, q1, -⟩ := F
    exact q1
  subst hx; subst hy; subst hzz
  have c0 : (nI 0).toNatClampNeg = 0 := nI_clamp (by omega)
  have cn : (nI n).toNatClampNeg = n := nI_clamp (by omega)
  refine va_copyi F.1 F.2.1 (F.2.2.1.trans hl.1.symm) F.2.2.2.1 (F.ht _ hlk) (F.ht _ mw_acopy_n) (F.ht _ mw_acopy_s) (F.ht _ mw_system) F.bs.1 (wsOf_P hH) (wsOf_D (fun a e ha => (hH a e ha).1)) (H0 := H) ⟨Nat.le_refl _, fun _ _ _ => rfl, hS.2.2⟩ k0 k1 0 0 hk0 hk1 rfl rfl rfl (nI_pos (by omega)) (nI_pos (by omega)) (nI_pos (by omega)) (by rw [c0, cn]; omega) (by rw [c0, cn]; omega) (fun i _ => rfl) hf hl2 d ?_
  intro H1 locs1 hP1 _ hS1
  refine W_cap fun hcap => ?_
  rw [c0, cn, cpF_cpy] at hP1
  have hle := hS1.1
  exact kk p l e s m args below meth c F H1 locs1 A (by omega) (wsOf_set hH hz hk1 hP1) ⟨Nat.le_trans hS.1 hS1.1, fun q g1 g2 => (hS1.2.1 q (Nat.lt_of_lt_of_le g1 hS.1) g2).trans (hS.2.1 q g1 g2), hS1.2.2⟩ hl
theorem r_if_eqN {a : Nat} {off : Int} (tgt : Nat) (d : decode M.2.1 pc = .ok (.ifCond .eq off, 3)) (ht : (pc : Int) + off = (tgt : Int)) (ha : a < 2147483648) (kt : a = 0 → J v M R K t0 cells slots h top tgt ls st) (kf : a ≠ 0 → J v M R K t0 cells slots h top (pc + 3) ls st) : J v M R K t0 cells slots h top pc ls (.int (nI a) :: st) :=
  r_if_eq tgt d ht (fun q => kt ((nI_eq_iff ha (b := 0) (by omega)).mp q)) (fun q => kf (fun z => q (by rw [z]; rfl)))
theorem r_if_neN {a : Nat} {off : Int} (tgt : Nat) (d : decode M.2.1 pc = .ok (.ifCond .ne off, 3)) (ht : (pc : Int) + off = (tgt : Int)) (ha : a < 2147483648) (kt : a ≠ 0 → J v M R K t0 cells slots h top tgt ls st) (kf : a = 0 → J v M R K t0 cells slots h top (pc + 3) ls st) : J v M R K t0 cells slots h top pc ls (.int (nI a) :: st) :=
  r_if_ne tgt d ht (fun q => kt (fun z => q (by rw [z]; rfl))) (fun q => kf ((nI_eq_iff ha (b := 0) (by omega)).mp q))
theorem r_if_gtN {a : Nat} {off : Int} (tgt : Nat) (d : decode M.2.1 pc = .ok (.ifCond .gt off, 3)) (ht : (pc : Int) + off = (tgt : Int)) (ha : a < 2147483648) (kt : 0 < a → J v M R K t0 cells slots h top tgt ls st) (kf : a = 0 → J v M R K t0 cells slots h top (pc + 3) ls st) : J v M R K t0 cells slots h top pc ls (.int (nI a) :: st) :=
  r_if_gt tgt d ht (fun q => kt ((nI_lt_iff (a := 0) (by omega) ha).mp q)) (fun q => kf (Nat.eq_zero_of_not_pos (fun z => q ((nI_lt_iff (a := 0) (by omega) ha).mpr z))))
theorem r_if_leN {a : Nat} {off : Int} (tgt : Nat) (d : decode M.2.1 pc = .ok (.ifCond .le off, 3)) (ht : (pc : Int) + off = (tgt : Int)) (ha : a < 2147483648) (kt : a = 0 → J v M R K t0 cells slots h top tgt ls st) (kf : 0 < a → J v M R K t0 cells slots h top (pc + 3) ls st) : J v M R K t0 cells slots h top pc ls (.int (nI a) :: st) :=
  r_if_le tgt d ht (fun q => kt (Nat.le_zero.mp ((nI_le_iff ha (b := 0) (by omega)).mp q))) (fun q => kf (Nat.pos_of_ne_zero (fun z => q (by rw [z]; exact (nI_le_iff (a := 0) (b := 0) (by omega) (by omega)).mpr (Nat.le_refl _)))))
theorem r_if_ltN {a : Nat} {off : Int} (tgt : Nat) (d : decode M.2.1 pc = .ok (.ifCond .lt off, 3)) (ht : (pc : Int) + off = (tgt : Int)) (ha : a < 2147483648) (kf : J v M R K t0 cells slots h top (pc + 3) ls st) : J v M R K t0 cells slots h top pc ls (.int (nI a) :: st) :=
  r_if_lt tgt d ht (fun q => absurd q (nI_pos (by omega))) (fun _ => kf)
theorem r_if_geN {a : Nat} {off : Int} (tgt : Nat) (d : decode M.2.1 pc = .ok (.ifCond .ge off, 3)) (ht : (pc : Int) + off = (tgt : Int)) (ha : a < 2147483648) (kt : J v M R K t0 cells slots h top tgt ls st) : J v M R K t0 cells slots h top pc ls (.int (nI a) :: st) :=
  r_if_ge tgt d ht (fun _ => kt) (fun q => absurd (nI_pos' (by omega)) q)
end
/-- going down: a loop's head -/
theorem down {n : Nat} {P : Nat → Prop} (hx : P n) (hs : ∀ u, u < n → P (u + 1) → P u) : ∀ u, u ≤ n → P u := by
  have key : ∀ k u, u + k = n → P u := by
    intro k
    induction k with
    | zero => intro u hu; have e : u = n := by omega
              rw [e]; exact hx
    | succ k ih => intro u hu; exact hs u (by omega) (ih (u + 1) (by omega))
  intro u hu
  exact key (n - u) u (by omega)
theorem hp_hp (h : Hp) (a : Nat) (e e2 : va_E) : hp (hp h a e) a e2 = hp h a e2 := by
  funext q
  unfold hp
  split <;> rfl
theorem hp_comm (h : Hp) {a b : Nat} (e e2 : va_E) (n : a ≠ b) : hp (hp h a e) b e2 = hp (hp h b e2) a e := by
  funext q
  unfold hp
  by_cases h1 : q = b
  · subst h1
    simp [Ne.symm n]
  · simp [h1]
theorem hp_id {h : Hp} {a : Nat} {e : va_E} (ha : h a = some e) : hp h a e = h := by
  funext q
  unfold hp
  split
  · next hq => rw [hq, ha]
  · rfl
/-! sets of at most six vertices as numbers -/
theorem bs_sh : ∀ S, S < 64 → ∀ k, k < 8 → ((nI S >>> (nI k &&& 31)) &&& nI 1) = nI (Bool.toNat (S.testBit k)) := by decide +kernel
theorem bs_one : ∀ k, k < 8 → (nI 1 <<< (nI k &&& 31)) = nI (2 ^ k) := by decide +kernel
theorem bs_or : ∀ S, S < 64 → ∀ T, T < 64 → (nI S ||| nI T) = nI (S ||| T) := by decide +kernel
theorem bs_and : ∀ S, S < 64 → ∀ T, T < 64 → (nI S &&& nI T) = nI (S &&& T) := by decide +kernel
theorem bs_ext {S T : Nat} (hS : S < 64) (hT : T < 64) (hh : ∀ k, k < 6 → S.testBit k = T.testBit k) : S = T := by
  apply Nat.eq_of_testBit_eq
  intro k
  by_cases hk : k < 6
  · exact hh k hk
  · rw [Nat.testBit_lt_two_pow, Nat.testBit_lt_two_pow]
    · exact Nat.lt_of_lt_of_le hT (show 2 ^ 6 ≤ 2 ^ k from Nat.pow_le_pow_right (by omega) (by omega))
    · exact Nat.lt_of_lt_of_le hS (show 2 ^ 6 ≤ 2 ^ k from Nat.pow_le_pow_right (by omega) (by omega))
theorem bs_or_lt {S T n : Nat} (hS : S < 2 ^ n) (hT : T < 2 ^ n) : S ||| T < 2 ^ n := Nat.or_lt_two_pow hS hT
end
section
/-! ===== Graph: its cells, reads and changes ===== -/
/-- what a graph is told by: vertices, edges, absorbing, blocks; low, high, weights, block, oldBlock; the formula's address -/
abbrev GT : Type := (Nat × Nat × Nat × Nat) × ((Nat → Nat) × (Nat → Nat) × (Nat → Nat) × (Nat → Nat) × (Nat → Nat)) × Nat
def GT.n (G : GT) : Nat := G.1.1
def GT.e (G : GT) : Nat := G.1.2.1
def GT.a (G : GT) : Nat := G.1.2.2.1
def GT.b (G : GT) : Nat := G.1.2.2.2
def GT.L (G : GT) : Nat → Nat := G.2.1.1
def GT.H (G : GT) : Nat → Nat := G.2.1.2.1
def GT.W (G : GT) : Nat → Nat := G.2.1.2.2.1
def GT.B (G : GT) : Nat → Nat := G.2.1.2.2.2.1
def GT.O (G : GT) : Nat → Nat := G.2.1.2.2.2.2
def GT.F (G : GT) : Nat := G.2.2
def gFs (g : Nat) (G : GT) : List Value := [.int (nI G.n), .int (nI G.e), .int (nI G.a), .int (nI G.b), .ref (g + 1), .ref (g + 2), .ref (g + 3), .ref (g + 4), .ref (g + 5), .ref G.F]
def isG (v : Ev) (h : Hp) (g : Nat) (G : GT) : Prop := h g = some (ob 3 (gFs g G)) ∧ h (g + 1) = some (aI v 15 (iF G.L)) ∧ h (g + 2) = some (aI v 15 (iF G.H)) ∧ h (g + 3) = some (aI v 36 (iF G.W)) ∧ h (g + 4) = some (aI v 6 (iF G.B)) ∧ h (g + 5) = some (aI v 6 (iF G.O))
theorem isG.frame {v : Ev} {h h' : Hp} {g : Nat} {G : GT} (hg : isG v h g G) (hf : ∀ q, g ≤ q → q < g + 6 → h' q = h q) : isG v h' g G := by
  obtain ⟨h0, h1, h2, h3, h4, h5⟩ := hg
  exact ⟨by rw [hf _ (by omega) (by omega)]; exact h0, by rw [hf _ (by omega) (by omega)]; exact h1, by rw [hf _ (by omega) (by omega)]; exact h2, by rw [hf _ (by omega) (by omega)]; exact h3, by rw [hf _ (by omega) (by omega)]; exact h4, by rw [hf _ (by omega) (by omega)]; exact h5⟩
theorem isG.put {v : Ev} {h : Hp} {g a : Nat} {e : va_E} {G : GT} (hg : isG v h g G) (ha : a < g ∨ g + 6 ≤ a) : isG v (hp h a e) g G := hg.frame (fun q _ _ => hp_ne h e (by omega))
/-- the scalars anew -/
def GT.sc (G : GT) (n e a b : Nat) : GT := ((n, e, a, b), G.2)
def GT.sW (G : GT) (W : Nat → Nat) : GT := (G.1, (G.L, G.H, W, G.B, G.O), G.F)
def GT.sB (G : GT) (B : Nat → Nat) : GT := (G.1, (G.L, G.H, G.W, B, G.O), G.F)
def GT.sL (G : GT) (L : Nat → Nat) : GT := (G.1, (L, G.H, G.W, G.B, G.O), G.F)
def GT.sH (G : GT) (H : Nat → Nat) : GT := (G.1, (G.L, H, G.W, G.B, G.O), G.F)
def GT.sO (G : GT) (O : Nat → Nat) : GT := (G.1, (G.L, G.H, G.W, G.B, O), G.F)
def GT.sF (G : GT) (F : Nat) : GT := (G.1, G.2.1, F)
theorem hp6 (h : Hp) {a q : Nat} (e : va_E) (n : q ≠ a) {x : Option va_E} (hx : h q = x) : hp h a e q = x := (hp_ne h e n).trans hx
theorem isG.p0 {v : Ev} {h : Hp} {g : Nat} {G : GT} (hg : isG v h g G) (n e a b : Nat) : isG v (hp h g (ob 3 (gFs g (G.sc n e a b)))) g (G.sc n e a b) :=
  ⟨hp_eq _ _ _, hp6 h _ (by omega) hg.2.1, hp6 h _ (by omega) hg.2.2.1, hp6 h _ (by omega) hg.2.2.2.1, hp6 h _ (by omega) hg.2.2.2.2.1, hp6 h _ (by omega) hg.2.2.2.2.2⟩
theorem isG.pF {v : Ev} {h : Hp} {g : Nat} {G : GT} (hg : isG v h g G) (F : Nat) : isG v (hp h g (ob 3 (gFs g (G.sF F)))) g (G.sF F) :=
  ⟨hp_eq _ _ _, hp6 h _ (by omega) hg.2.1, hp6 h _ (by omega) hg.2.2.1, hp6 h _ (by omega) hg.2.2.2.1, hp6 h _ (by omega) hg.2.2.2.2.1, hp6 h _ (by omega) hg.2.2.2.2.2⟩
theorem isG.pL {v : Ev} {h : Hp} {g : Nat} {G : GT} (hg : isG v h g G) (L : Nat → Nat) : isG v (hp h (g + 1) (aI v 15 (iF L))) g (G.sL L) :=
  ⟨hp6 h _ (by omega) hg.1, hp_eq _ _ _, hp6 h _ (by omega) hg.2.2.1, hp6 h _ (by omega) hg.2.2.2.1, hp6 h _ (by omega) hg.2.2.2.2.1, hp6 h _ (by omega) hg.2.2.2.2.2⟩
theorem isG.pH {v : Ev} {h : Hp} {g : Nat} {G : GT} (hg : isG v h g G) (L : Nat → Nat) : isG v (hp h (g + 2) (aI v 15 (iF L))) g (G.sH L) :=
  ⟨hp6 h _ (by omega) hg.1, hp6 h _ (by omega) hg.2.1, hp_eq _ _ _, hp6 h _ (by omega) hg.2.2.2.1, hp6 h _ (by omega) hg.2.2.2.2.1, hp6 h _ (by omega) hg.2.2.2.2.2⟩
theorem isG.pW {v : Ev} {h : Hp} {g : Nat} {G : GT} (hg : isG v h g G) (W : Nat → Nat) : isG v (hp h (g + 3) (aI v 36 (iF W))) g (G.sW W) :=
  ⟨hp6 h _ (by omega) hg.1, hp6 h _ (by omega) hg.2.1, hp6 h _ (by omega) hg.2.2.1, hp_eq _ _ _, hp6 h _ (by omega) hg.2.2.2.2.1, hp6 h _ (by omega) hg.2.2.2.2.2⟩
theorem isG.pB {v : Ev} {h : Hp} {g : Nat} {G : GT} (hg : isG v h g G) (B : Nat → Nat) : isG v (hp h (g + 4) (aI v 6 (iF B))) g (G.sB B) :=
  ⟨hp6 h _ (by omega) hg.1, hp6 h _ (by omega) hg.2.1, hp6 h _ (by omega) hg.2.2.1, hp6 h _ (by omega) hg.2.2.2.1, hp_eq _ _ _, hp6 h _ (by omega) hg.2.2.2.2.2⟩
theorem isG.pO {v : Ev} {h : Hp} {g : Nat} {G : GT} (hg : isG v h g G) (B : Nat → Nat) : isG v (hp h (g + 5) (aI v 6 (iF B))) g (G.sO B) :=
  ⟨hp6 h _ (by omega) hg.1, hp6 h _ (by omega) hg.2.1, hp6 h _ (by omega) hg.2.2.1, hp6 h _ (by omega) hg.2.2.2.1, hp6 h _ (by omega) hg.2.2.2.2.1, hp_eq _ _ _⟩
theorem c_wb {v : Ev} {h : Hp} {top g : Nat} {G : GT} (hg : isG v h g G) {a b : Nat} (hi : a * 6 + b < 36) : Cal v mX3_weightBetween 1 0 0 [.ref g, .int (nI a), .int (nI b)] h top (pR (.int (nI (G.W (a * 6 + b)))) h top) noX := by
  refine Cal.ofJ (by decide +kernel) rfl (Nat.le_of_ble_eq_true rfl) fun hz0 => ?_
  refine r_ls [some (.ref g), some (.int (nI a)), some (.int (nI b))] rfl ?_
  refine r_aload_n (pc := 0) (i := 0) (tX3_weightBetween.at 0 rfl) rfl rfl ?_
  refine r_get (pc := 1) (tX3_weightBetween.at 1 rfl) gf_X3_31 (hg.1) rfl ?_
  refine r_iload_n (pc := 4) (i := 1) (tX3_weightBetween.at 2 rfl) rfl rfl ?_
  refine r_bipush (pc := 5) (w := nI 6) (tX3_weightBetween.at 3 rfl) (by decide) ?_
  first | refine r_imulN (pc := 7) (tX3_weightBetween.at 4 rfl) ?_ | refine r_imul (pc := 7) (tX3_weightBetween.at 4 rfl) ?_
  refine r_iload_n (pc := 8) (i := 2) (tX3_weightBetween.at 5 rfl) rfl rfl ?_
  first | refine r_iaddN (pc := 9) (tX3_weightBetween.at 6 rfl) ?_ | refine r_iadd (pc := 9) (tX3_weightBetween.at 6 rfl) ?_
  refine r_iald (pc := 10) (tX3_weightBetween.at 7 rfl) (hg.2.2.2.1) (a * 6 + b) (rfl) (by omega) (Nat.le_of_ble_eq_true rfl) ?_
  refine r_iret (pc := 11) (tX3_weightBetween.at 8 rfl) rfl (Nat.le_of_ble_eq_true rfl) (Nat.le_of_ble_eq_true rfl) ?_
  exact ⟨rfl, rfl, rfl⟩
/-- the sum of the weights of a vertex, over the first n -/
def degN (W : Nat → Nat) (x n : Nat) : Nat := sN (fun u => W (x * 6 + u)) n
theorem c_sow {v : Ev} {h : Hp} {top g : Nat} {G : GT} (hg : isG v h g G) (hn : G.n ≤ 6) {x : Nat} (hx : x < 6) : Cal v mX3_sumOfWeights 2 0 0 [.ref g, .int (nI x)] h top (pR (.int (nI (degN G.W x G.n))) h top) noX := by
  refine Cal.ofJ (by decide +kernel) rfl (Nat.le_of_ble_eq_true rfl) fun hz0 => ?_
  refine r_ls [some (.ref g), some (.int (nI x)), none, none] rfl ?_
  refine r_iconst (pc := 0) (w := nI 0) (tX3_sumOfWeights.at 0 rfl) (by decide) ?_
  refine r_istore_n (pc := 1) (i := 2) (tX3_sumOfWeights.at 1 rfl) rfl (by decide) ?_
  refine r_iconst (pc := 2) (w := nI 0) (tX3_sumOfWeights.at 2 rfl) (by decide) ?_
  refine r_istore_n (pc := 3) (i := 3) (tX3_sumOfWeights.at 3 rfl) rfl (by decide) ?_
  refine down (n := G.n) (P := fun u => J v mX3_sumOfWeights (rmOf 2 0 0) (KM v (pR (.int (nI (degN G.W x G.n))) h top) noX 0 0) top 0 0 h top 4 [some (.ref g), some (.int (nI x)), some (.int (nI (degN G.W x u))), some (.int (nI u))] []) ?_ ?_ 0 (by omega)
  · refine r_iload_n (pc := 4) (i := 3) (tX3_sumOfWeights.at 4 rfl) rfl rfl ?_
    refine r_aload_n (pc := 5) (i := 0) (tX3_sumOfWeights.at 5 rfl) rfl rfl ?_
    refine r_get (pc := 6) (tX3_sumOfWeights.at 6 rfl) gf_X3_9 (hg.1) rfl ?_
    refine r_icmp_geN (pc := 9) 27 (tX3_sumOfWeights.at 7 rfl) (by decide) (by omega) (by omega) (fun _ => ?_) (fun c => by omega)
    refine r_iload_n (pc := 27) (i := 2) (tX3_sumOfWeights.at 17 rfl) rfl rfl ?_
    refine r_iret (pc := 28) (tX3_sumOfWeights.at 18 rfl) rfl (Nat.le_of_ble_eq_true rfl) (Nat.le_of_ble_eq_true rfl) ?_
    exact ⟨rfl, rfl, rfl⟩
  · intro u hu ih
    refine r_iload_n (pc := 4) (i := 3) (tX3_sumOfWeights.at 4 rfl) rfl rfl ?_
    refine r_aload_n (pc := 5) (i := 0) (tX3_sumOfWeights.at 5 rfl) rfl rfl ?_
    refine r_get (pc := 6) (tX3_sumOfWeights.at 6 rfl) gf_X3_9 (hg.1) rfl ?_
    refine r_icmp_geN (pc := 9) 27 (tX3_sumOfWeights.at 7 rfl) (by decide) (by omega) (by omega) (fun c => by omega) (fun _ => ?_)
    refine r_iload_n (pc := 12) (i := 2) (tX3_sumOfWeights.at 8 rfl) rfl rfl ?_
    refine r_aload_n (pc := 13) (i := 0) (tX3_sumOfWeights.at 9 rfl) rfl rfl ?_
    refine r_iload_n (pc := 14) (i := 1) (tX3_sumOfWeights.at 10 rfl) rfl rfl ?_
    refine r_iload_n (pc := 15) (i := 3) (tX3_sumOfWeights.at 11 rfl) rfl rfl ?_
    refine r_callV (M' := mX3_weightBetween) (pc := 16) (tX3_sumOfWeights.at 12 rfl) ml_X3_71 rfl mw_X3_weightBetween ⟨by decide, by decide⟩ (hg.1) rfl rfl (c_wb hg (a := x) (b := u) (by omega)) rfl rfl (Nat.le_of_ble_eq_true rfl) (Nat.le_of_ble_eq_true rfl) (Nat.le_of_ble_eq_true rfl) ?_
    rintro _ _ _ ⟨rfl, rfl, rfl⟩
    first | refine r_iaddN (pc := 19) (tX3_sumOfWeights.at 13 rfl) ?_ | refine r_iadd (pc := 19) (tX3_sumOfWeights.at 13 rfl) ?_
    refine r_istore_n (pc := 20) (i := 2) (tX3_sumOfWeights.at 14 rfl) rfl (by decide) ?_
    first | refine r_iincN (pc := 21) (tX3_sumOfWeights.at 15 rfl) rfl (by decide) ?_ | refine r_iinc (pc := 21) (tX3_sumOfWeights.at 15 rfl) rfl rfl (by decide) ?_
    refine r_goto (pc := 24) 4 (tX3_sumOfWeights.at 16 rfl) (by decide) ?_
    exact ih
theorem c_putW {v : Ev} {h : Hp} {top g : Nat} {G : GT} (hg : isG v h g G) {a b w : Nat} (ha : a < 6) (hb : b < 6) : Cal v mX3_putWeight 1 0 0 [.ref g, .int (nI a), .int (nI b), .int (nI w)] h top (pV (hp h (g + 3) (aI v 36 (iF (upN (upN G.W (a * 6 + b) w) (b * 6 + a) w)))) top) noX := by
  refine Cal.ofJ (by decide +kernel) rfl (Nat.le_of_ble_eq_true rfl) fun hz0 => ?_
  refine r_ls [some (.ref g), some (.int (nI a)), some (.int (nI b)), some (.int (nI w))] rfl ?_
  refine r_aload_n (pc := 0) (i := 0) (tX3_putWeight.at 0 rfl) rfl rfl ?_
  refine r_get (pc := 1) (tX3_putWeight.at 1 rfl) gf_X3_31 (hg.1) rfl ?_
  refine r_iload_n (pc := 4) (i := 1) (tX3_putWeight.at 2 rfl) rfl rfl ?_
  refine r_bipush (pc := 5) (w := nI 6) (tX3_putWeight.at 3 rfl) (by decide) ?_
  first | refine r_imulN (pc := 7) (tX3_putWeight.at 4 rfl) ?_ | refine r_imul (pc := 7) (tX3_putWeight.at 4 rfl) ?_
  refine r_iload_n (pc := 8) (i := 2) (tX3_putWeight.at 5 rfl) rfl rfl ?_
  first | refine r_iaddN (pc := 9) (tX3_putWeight.at 6 rfl) ?_ | refine r_iadd (pc := 9) (tX3_putWeight.at 6 rfl) ?_
  refine r_iload_n (pc := 10) (i := 3) (tX3_putWeight.at 7 rfl) rfl rfl ?_
  refine r_iast (pc := 11) (tX3_putWeight.at 8 rfl) (hg.2.2.2.1) (a * 6 + b) (rfl) (by omega) (Nat.le_of_ble_eq_true rfl) ?_
  rw [upd_iF]
  have hg2 := hg.pW (upN G.W (a * 6 + b) w)
  refine r_aload_n (pc := 12) (i := 0) (tX3_putWeight.at 9 rfl) rfl rfl ?_
  refine r_get (pc := 13) (tX3_putWeight.at 10 rfl) gf_X3_31 (hg2.1) rfl ?_
  refine r_iload_n (pc := 16) (i := 2) (tX3_putWeight.at 11 rfl) rfl rfl ?_
  refine r_bipush (pc := 17) (w := nI 6) (tX3_putWeight.at 12 rfl) (by decide) ?_
  first | refine r_imulN (pc := 19) (tX3_putWeight.at 13 rfl) ?_ | refine r_imul (pc := 19) (tX3_putWeight.at 13 rfl) ?_
  refine r_iload_n (pc := 20) (i := 1) (tX3_putWeight.at 14 rfl) rfl rfl ?_
  first | refine r_iaddN (pc := 21) (tX3_putWeight.at 15 rfl) ?_ | refine r_iadd (pc := 21) (tX3_putWeight.at 15 rfl) ?_
  refine r_iload_n (pc := 22) (i := 3) (tX3_putWeight.at 16 rfl) rfl rfl ?_
  refine r_iast (pc := 23) (tX3_putWeight.at 17 rfl) (hg2.2.2.2.1) (b * 6 + a) (rfl) (by omega) (Nat.le_of_ble_eq_true rfl) ?_
  refine r_vret (pc := 24) (tX3_putWeight.at 18 rfl) rfl (Nat.le_of_ble_eq_true rfl) (Nat.le_of_ble_eq_true rfl) ?_
  exact ⟨rfl, (by rw [hp_hp, ← upd_iF]; rfl : _ = hp (hp h (g + 3) (aI v 36 (iF (upN G.W (a * 6 + b) w)))) (g + 3) _).trans rfl, rfl⟩
/-- the set of the neighbours among the first n -/
def nbm (W : Nat → Nat) (x : Nat) : Nat → Nat
  | 0 => 0
  | n + 1 => if W (x * 6 + n) = 0 then nbm W x n else nbm W x n ||| 2 ^ n
theorem nbm_lt (W : Nat → Nat) (x : Nat) : ∀ n, nbm W x n < 2 ^ n
  | 0 => by simp [nbm]
  | n + 1 => by
    have h1 := nbm_lt W x n
    have h2 : 2 ^ n < 2 ^ (n + 1) := Nat.pow_lt_pow_right (by omega) (by omega)
    rw [nbm]
    split
    · omega
    · exact Nat.or_lt_two_pow (by omega) h2
theorem p64 {n : Nat} (hn : n ≤ 6) : 2 ^ n ≤ 64 := by
  rcases (show n = 0 ∨ n = 1 ∨ n = 2 ∨ n = 3 ∨ n = 4 ∨ n = 5 ∨ n = 6 by omega) with rfl | rfl | rfl | rfl | rfl | rfl | rfl <;> decide
theorem c_nb {v : Ev} {h : Hp} {top g : Nat} {G : GT} (hg : isG v h g G) (hn : G.n ≤ 6) {x : Nat} (hx : x < 6) (hW : ∀ k, k < 36 → G.W k < 2147483648) : Cal v mX3_neighbours 2 0 0 [.ref g, .int (nI x)] h top (pR (.int (nI (nbm G.W x G.n))) h top) noX := by
  refine Cal.ofJ (by decide +kernel) rfl (Nat.le_of_ble_eq_true rfl) fun hz0 => ?_
  refine r_ls [some (.ref g), some (.int (nI x)), none, none] rfl ?_
  refine r_iconst (pc := 0) (w := nI 0) (tX3_neighbours.at 0 rfl) (by decide) ?_
  refine r_istore_n (pc := 1) (i := 2) (tX3_neighbours.at 1 rfl) rfl (by decide) ?_
  refine r_iconst (pc := 2) (w := nI 0) (tX3_neighbours.at 2 rfl) (by decide) ?_
  refine r_istore_n (pc := 3) (i := 3) (tX3_neighbours.at 3 rfl) rfl (by decide) ?_
  refine down (n := G.n) (P := fun u => J v mX3_neighbours (rmOf 2 0 0) (KM v (pR (.int (nI (nbm G.W x G.n))) h top) noX 0 0) top 0 0 h top 4 [some (.ref g), some (.int (nI x)), some (.int (nI (nbm G.W x u))), some (.int (nI u))] []) ?_ ?_ 0 (by omega)
  · refine r_iload_n (pc := 4) (i := 3) (tX3_neighbours.at 4 rfl) rfl rfl ?_
    refine r_aload_n (pc := 5) (i := 0) (tX3_neighbours.at 5 rfl) rfl rfl ?_
    refine r_get (pc := 6) (tX3_neighbours.at 6 rfl) gf_X3_9 (hg.1) rfl ?_
    refine r_icmp_geN (pc := 9) 33 (tX3_neighbours.at 7 rfl) (by decide) (by omega) (by omega) (fun _ => ?_) (fun c => by omega)
    refine r_iload_n (pc := 33) (i := 2) (tX3_neighbours.at 21 rfl) rfl rfl ?_
    refine r_iret (pc := 34) (tX3_neighbours.at 22 rfl) rfl (Nat.le_of_ble_eq_true rfl) (Nat.le_of_ble_eq_true rfl) ?_
    exact ⟨rfl, rfl, rfl⟩
  · intro u hu ih
    have hw := hW (x * 6 + u) (by omega)
    refine r_iload_n (pc := 4) (i := 3) (tX3_neighbours.at 4 rfl) rfl rfl ?_
    refine r_aload_n (pc := 5) (i := 0) (tX3_neighbours.at 5 rfl) rfl rfl ?_
    refine r_get (pc := 6) (tX3_neighbours.at 6 rfl) gf_X3_9 (hg.1) rfl ?_
    refine r_icmp_geN (pc := 9) 33 (tX3_neighbours.at 7 rfl) (by decide) (by omega) (by omega) (fun c => by omega) (fun _ => ?_)
    refine r_aload_n (pc := 12) (i := 0) (tX3_neighbours.at 8 rfl) rfl rfl ?_
    refine r_iload_n (pc := 13) (i := 1) (tX3_neighbours.at 9 rfl) rfl rfl ?_
    refine r_iload_n (pc := 14) (i := 3) (tX3_neighbours.at 10 rfl) rfl rfl ?_
    refine r_callV (M' := mX3_weightBetween) (pc := 15) (tX3_neighbours.at 11 rfl) ml_X3_71 rfl mw_X3_weightBetween ⟨by decide, by decide⟩ (hg.1) rfl rfl (c_wb hg (a := x) (b := u) (by omega)) rfl rfl (Nat.le_of_ble_eq_true rfl) (Nat.le_of_ble_eq_true rfl) (Nat.le_of_ble_eq_true rfl) ?_
    rintro _ _ _ ⟨rfl, rfl, rfl⟩
    refine r_if_eqN (pc := 18) 27 (tX3_neighbours.at 12 rfl) (by decide) (by omega) (fun c => ?_) (fun c => ?_)
    · first | refine r_iincN (pc := 27) (tX3_neighbours.at 19 rfl) rfl (by decide) ?_ | refine r_iinc (pc := 27) (tX3_neighbours.at 19 rfl) rfl rfl (by decide) ?_
      refine r_goto (pc := 30) 4 (tX3_neighbours.at 20 rfl) (by decide) ?_
      rw [nbm, if_pos c] at ih
      exact ih
    · refine r_iload_n (pc := 21) (i := 2) (tX3_neighbours.at 13 rfl) rfl rfl ?_
      refine r_iconst (pc := 22) (w := nI 1) (tX3_neighbours.at 14 rfl) (by decide) ?_
      refine r_iload_n (pc := 23) (i := 3) (tX3_neighbours.at 15 rfl) rfl rfl ?_
      refine r_ishl (pc := 24) (tX3_neighbours.at 16 rfl) ?_
      rw [bs_one u (by omega)]
      have h1 := nbm_lt G.W x u
      have h2 := p64 (n := u) (by omega)
      have h3 : 2 ^ u < 64 := Nat.lt_of_lt_of_le (Nat.pow_lt_pow_right (by omega) (show u < 6 by omega)) (by decide)
      refine r_ior (pc := 25) (tX3_neighbours.at 17 rfl) ?_
      rw [bs_or _ (by omega) _ h3]
      refine r_istore_n (pc := 26) (i := 2) (tX3_neighbours.at 18 rfl) rfl (by decide) ?_
      first | refine r_iincN (pc := 27) (tX3_neighbours.at 19 rfl) rfl (by decide) ?_ | refine r_iinc (pc := 27) (tX3_neighbours.at 19 rfl) rfl rfl (by decide) ?_
      refine r_goto (pc := 30) 4 (tX3_neighbours.at 20 rfl) (by decide) ?_
      rw [nbm, if_neg c] at ih
      exact ih
/-- a round over the first v vertices, in place -/
def cIn (W : Nat → Nat) (n S : Nat) : Nat → Nat
  | 0 => S
  | u + 1 => if (cIn W n S u).testBit u then cIn W n S u ||| nbm W u n else cIn W n S u
def cOut (W : Nat → Nat) (n x : Nat) : Nat → Nat
  | 0 => 2 ^ x
  | r + 1 => cIn W n (cOut W n x r) n
theorem cIn_lt {W : Nat → Nat} {n S : Nat} (hS : S < 2 ^ n) : ∀ u, cIn W n S u < 2 ^ n
  | 0 => hS
  | u + 1 => by
    have h1 := cIn_lt (W := W) hS u
    rw [cIn]
    split
    · exact Nat.or_lt_two_pow h1 (nbm_lt W u n)
    · exact h1
theorem cOut_lt {W : Nat → Nat} {n x : Nat} (hx : x < n) : ∀ r, cOut W n x r < 2 ^ n
  | 0 => Nat.pow_lt_pow_right (by omega) hx
  | r + 1 => cIn_lt (cOut_lt hx r) n
/-- the set of what can be reached -/
def rch (W : Nat → Nat) (n x : Nat) : Nat := cOut W n x (n - 1)
theorem rch_lt {W : Nat → Nat} {n x : Nat} (hx : x < n) : rch W n x < 2 ^ n := cOut_lt hx _
theorem c_comp {v : Ev} {h : Hp} {top g : Nat} {G : GT} (hg : isG v h g G) (hn : G.n ≤ 6) {x : Nat} (hx : x < G.n) (hW : ∀ k, k < 36 → G.W k < 2147483648) : Cal v mX3_component 3 0 0 [.ref g, .int (nI x)] h top (pR (.int (nI (rch G.W G.n x))) h top) noX := by
  refine Cal.ofJ (by decide +kernel) rfl (Nat.le_of_ble_eq_true rfl) fun hz0 => ?_
  refine r_ls [some (.ref g), some (.int (nI x)), none, none, none] rfl ?_
  refine r_iconst (pc := 0) (w := nI 1) (tX3_component.at 0 rfl) (by decide) ?_
  refine r_iload_n (pc := 1) (i := 1) (tX3_component.at 1 rfl) rfl rfl ?_
  refine r_ishl (pc := 2) (tX3_component.at 2 rfl) ?_
  rw [bs_one x (by omega)]
  refine r_istore_n (pc := 3) (i := 2) (tX3_component.at 3 rfl) rfl (by decide) ?_
  refine r_iconst (pc := 4) (w := nI 1) (tX3_component.at 4 rfl) (by decide) ?_
  refine r_istore_n (pc := 5) (i := 3) (tX3_component.at 5 rfl) rfl (by decide) ?_
  refine down (n := G.n - 1) (P := fun r => J v mX3_component (rmOf 3 0 0) (KM v (pR (.int (nI (rch G.W G.n x))) h top) noX 0 0) top 0 0 h top 6 [some (.ref g), some (.int (nI x)), some (.int (nI (cOut G.W G.n x r))), some (.int (nI (r + 1))), none] []) ?_ ?_ 0 (by omega)
  · refine r_iload_n (pc := 6) (i := 3) (tX3_component.at 6 rfl) rfl rfl ?_
    refine r_aload_n (pc := 7) (i := 0) (tX3_component.at 7 rfl) rfl rfl ?_
    refine r_get (pc := 8) (tX3_component.at 8 rfl) gf_X3_9 (hg.1) rfl ?_
    refine r_icmp_geN (pc := 11) 56 (tX3_component.at 9 rfl) (by decide) (by omega) (by omega) (fun _ => ?_) (fun c => by omega)
    refine r_iload_n (pc := 56) (i := 2) (tX3_component.at 32 rfl) rfl rfl ?_
    refine r_iret (pc := 57) (tX3_component.at 33 rfl) rfl (Nat.le_of_ble_eq_true rfl) (Nat.le_of_ble_eq_true rfl) ?_
    exact ⟨rfl, rfl, rfl⟩
  · intro r hr ih
    refine r_iload_n (pc := 6) (i := 3) (tX3_component.at 6 rfl) rfl rfl ?_
    refine r_aload_n (pc := 7) (i := 0) (tX3_component.at 7 rfl) rfl rfl ?_
    refine r_get (pc := 8) (tX3_component.at 8 rfl) gf_X3_9 (hg.1) rfl ?_
    refine r_icmp_geN (pc := 11) 56 (tX3_component.at 9 rfl) (by decide) (by omega) (by omega) (fun c => by omega) (fun _ => ?_)
    refine r_iconst (pc := 14) (w := nI 0) (tX3_component.at 10 rfl) (by decide) ?_
    refine r_istore (pc := 15) (i := 4) (tX3_component.at 11 rfl) (by decide) ?_
    have hlt : ∀ u, cIn G.W G.n (cOut G.W G.n x r) u < 64 := fun u => Nat.lt_of_lt_of_le (cIn_lt (cOut_lt hx r) u) (p64 hn)
    refine down (n := G.n) (P := fun u => J v mX3_component (rmOf 3 0 0) (KM v (pR (.int (nI (rch G.W G.n x))) h top) noX 0 0) top 0 0 h top 17 [some (.ref g), some (.int (nI x)), some (.int (nI (cIn G.W G.n (cOut G.W G.n x r) u))), some (.int (nI (r + 1))), some (.int (nI u))] []) ?_ ?_ 0 (by omega)
    · refine r_iload (pc := 17) (i := 4) (tX3_component.at 12 rfl) rfl ?_
      refine r_aload_n (pc := 19) (i := 0) (tX3_component.at 13 rfl) rfl rfl ?_
      refine r_get (pc := 20) (tX3_component.at 14 rfl) gf_X3_9 (hg.1) rfl ?_
      refine r_icmp_geN (pc := 23) 50 (tX3_component.at 15 rfl) (by decide) (by omega) (by omega) (fun _ => ?_) (fun c => by omega)
      first | refine r_iincN (pc := 50) (tX3_component.at 30 rfl) rfl (by decide) ?_ | refine r_iinc (pc := 50) (tX3_component.at 30 rfl) rfl rfl (by decide) ?_
      refine r_goto (pc := 53) 6 (tX3_component.at 31 rfl) (by decide) ?_
      exact r_sub _ (fun i w hw => by
        match i, hw with
        | 0, hw => exact hw
        | 1, hw => exact hw
        | 2, hw => exact hw
        | 3, hw => exact hw
        | 4, hw => cases hw) ih
    · intro u hu ih2
      have h1 := hlt u
      refine r_iload (pc := 17) (i := 4) (tX3_component.at 12 rfl) rfl ?_
      refine r_aload_n (pc := 19) (i := 0) (tX3_component.at 13 rfl) rfl rfl ?_
      refine r_get (pc := 20) (tX3_component.at 14 rfl) gf_X3_9 (hg.1) rfl ?_
      refine r_icmp_geN (pc := 23) 50 (tX3_component.at 15 rfl) (by decide) (by omega) (by omega) (fun c => by omega) (fun _ => ?_)
      refine r_iload_n (pc := 26) (i := 2) (tX3_component.at 16 rfl) rfl rfl ?_
      refine r_iload (pc := 27) (i := 4) (tX3_component.at 17 rfl) rfl ?_
      refine r_ishr (pc := 29) (tX3_component.at 18 rfl) ?_
      refine r_iconst (pc := 30) (w := nI 1) (tX3_component.at 19 rfl) (by decide) ?_
      refine r_iand (pc := 31) (tX3_component.at 20 rfl) ?_
      rw [bs_sh _ h1 u (by omega)]
      have hb : Bool.toNat ((cIn G.W G.n (cOut G.W G.n x r) u).testBit u) ≤ 1 := Bool.toNat_le _
      refine r_if_eqN (pc := 32) 44 (tX3_component.at 21 rfl) (by decide) (by omega) (fun c => ?_) (fun c => ?_)
      · first | refine r_iincN (pc := 44) (tX3_component.at 28 rfl) rfl (by decide) ?_ | refine r_iinc (pc := 44) (tX3_component.at 28 rfl) rfl rfl (by decide) ?_
        refine r_goto (pc := 47) 17 (tX3_component.at 29 rfl) (by decide) ?_
        rw [cIn, if_neg (by intro q; rw [q] at c; cases c)] at ih2
        exact ih2
      · refine r_iload_n (pc := 35) (i := 2) (tX3_component.at 22 rfl) rfl rfl ?_
        refine r_aload_n (pc := 36) (i := 0) (tX3_component.at 23 rfl) rfl rfl ?_
        refine r_iload (pc := 37) (i := 4) (tX3_component.at 24 rfl) rfl ?_
        refine r_callV (M' := mX3_neighbours) (pc := 39) (tX3_component.at 25 rfl) ml_X3_74 rfl mw_X3_neighbours ⟨by decide, by decide⟩ (hg.1) rfl rfl (c_nb hg hn (x := u) (by omega) hW) rfl rfl (Nat.le_of_ble_eq_true rfl) (Nat.le_of_ble_eq_true rfl) (Nat.le_of_ble_eq_true rfl) ?_
        rintro _ _ _ ⟨rfl, rfl, rfl⟩
        refine r_ior (pc := 42) (tX3_component.at 26 rfl) ?_
        have h2 := nbm_lt G.W u G.n
        have h3 := p64 hn
        rw [bs_or _ h1 _ (by omega)]
        refine r_istore_n (pc := 43) (i := 2) (tX3_component.at 27 rfl) rfl (by decide) ?_
        first | refine r_iincN (pc := 44) (tX3_component.at 28 rfl) rfl (by decide) ?_ | refine r_iinc (pc := 44) (tX3_component.at 28 rfl) rfl rfl (by decide) ?_
        refine r_goto (pc := 47) 17 (tX3_component.at 29 rfl) (by decide) ?_
        rw [cIn, if_pos (by cases q : (cIn G.W G.n (cOut G.W G.n x r) u).testBit u <;> simp_all)] at ih2
        exact ih2
theorem c_hasWay {v : Ev} {h : Hp} {top g : Nat} {G : GT} (hg : isG v h g G) (hn : G.n ≤ 6) {x y : Nat} (hx : x < G.n) (hy : y < 6) (hW : ∀ k, k < 36 → G.W k < 2147483648) : Cal v mX3_hasWay 4 0 0 [.ref g, .int (nI x), .int (nI y)] h top (pR (.int (nI (Bool.toNat ((rch G.W G.n x).testBit y)))) h top) noX := by
  refine Cal.ofJ (by decide +kernel) rfl (Nat.le_of_ble_eq_true rfl) fun hz0 => ?_
  refine r_ls [some (.ref g), some (.int (nI x)), some (.int (nI y))] rfl ?_
  have h1 : rch G.W G.n x < 64 := Nat.lt_of_lt_of_le (rch_lt hx) (p64 hn)
  refine r_aload_n (pc := 0) (i := 0) (tX3_hasWay.at 0 rfl) rfl rfl ?_
  refine r_iload_n (pc := 1) (i := 1) (tX3_hasWay.at 1 rfl) rfl rfl ?_
  refine r_callV (M' := mX3_component) (pc := 2) (tX3_hasWay.at 2 rfl) ml_X3_78 rfl mw_X3_component ⟨by decide, by decide⟩ (hg.1) rfl rfl (c_comp hg hn hx hW) rfl rfl (Nat.le_of_ble_eq_true rfl) (Nat.le_of_ble_eq_true rfl) (Nat.le_of_ble_eq_true rfl) ?_
  rintro _ _ _ ⟨rfl, rfl, rfl⟩
  refine r_iload_n (pc := 5) (i := 2) (tX3_hasWay.at 3 rfl) rfl rfl ?_
  refine r_ishr (pc := 6) (tX3_hasWay.at 4 rfl) ?_
  refine r_iconst (pc := 7) (w := nI 1) (tX3_hasWay.at 5 rfl) (by decide) ?_
  refine r_iand (pc := 8) (tX3_hasWay.at 6 rfl) ?_
  rw [bs_sh _ h1 y (by omega)]
  have hb : Bool.toNat ((rch G.W G.n x).testBit y) ≤ 1 := Bool.toNat_le _
  refine r_if_eqN (pc := 9) 16 (tX3_hasWay.at 7 rfl) (by decide) (by omega) (fun c => ?_) (fun c => ?_)
  · refine r_iconst (pc := 16) (w := nI 0) (tX3_hasWay.at 10 rfl) (by decide) ?_
    refine r_zret (pc := 17) (tX3_hasWay.at 11 rfl) rfl (rfl) (Nat.le_of_ble_eq_true rfl) (Nat.le_of_ble_eq_true rfl) ?_
    rw [c]
    exact ⟨rfl, rfl, rfl⟩
  · refine r_iconst (pc := 12) (w := nI 1) (tX3_hasWay.at 8 rfl) (by decide) ?_
    refine r_goto (pc := 13) 17 (tX3_hasWay.at 9 rfl) (by decide) ?_
    refine r_zret (pc := 17) (tX3_hasWay.at 11 rfl) rfl (rfl) (Nat.le_of_ble_eq_true rfl) (Nat.le_of_ble_eq_true rfl) ?_
    rw [show Bool.toNat ((rch G.W G.n x).testBit y) = 1 by omega]
    exact ⟨rfl, rfl, rfl⟩
theorem c_isAbs {v : Ev} {h : Hp} {top g : Nat} {G : GT} (hg : isG v h g G) (ha : G.a < 64) {y : Nat} (hy : y < 6) : Cal v mX3_isAbsorbing 1 0 0 [.ref g, .int (nI y)] h top (pR (.int (nI (Bool.toNat (G.a.testBit y)))) h top) noX := by
  refine Cal.ofJ (by decide +kernel) rfl (Nat.le_of_ble_eq_true rfl) fun hz0 => ?_
  refine r_ls [some (.ref g), some (.int (nI y))] rfl ?_
  refine r_aload_n (pc := 0) (i := 0) (tX3_isAbsorbing.at 0 rfl) rfl rfl ?_
  refine r_get (pc := 1) (tX3_isAbsorbing.at 1 rfl) gf_X3_18 (hg.1) rfl ?_
  refine r_iload_n (pc := 4) (i := 1) (tX3_isAbsorbing.at 2 rfl) rfl rfl ?_
  refine r_ishr (pc := 5) (tX3_isAbsorbing.at 3 rfl) ?_
  refine r_iconst (pc := 6) (w := nI 1) (tX3_isAbsorbing.at 4 rfl) (by decide) ?_
  refine r_iand (pc := 7) (tX3_isAbsorbing.at 5 rfl) ?_
  rw [bs_sh _ ha y (by omega)]
  have hb : Bool.toNat (G.a.testBit y) ≤ 1 := Bool.toNat_le _
  refine r_if_eqN (pc := 8) 15 (tX3_isAbsorbing.at 6 rfl) (by decide) (by omega) (fun c => ?_) (fun c => ?_)
  · refine r_iconst (pc := 15) (w := nI 0) (tX3_isAbsorbing.at 9 rfl) (by decide) ?_
    refine r_zret (pc := 16) (tX3_isAbsorbing.at 10 rfl) rfl (rfl) (Nat.le_of_ble_eq_true rfl) (Nat.le_of_ble_eq_true rfl) ?_
    rw [c]
    exact ⟨rfl, rfl, rfl⟩
  · refine r_iconst (pc := 11) (w := nI 1) (tX3_isAbsorbing.at 7 rfl) (by decide) ?_
    refine r_goto (pc := 12) 16 (tX3_isAbsorbing.at 8 rfl) (by decide) ?_
    refine r_zret (pc := 16) (tX3_isAbsorbing.at 10 rfl) rfl (rfl) (Nat.le_of_ble_eq_true rfl) (Nat.le_of_ble_eq_true rfl) ?_
    rw [show Bool.toNat (G.a.testBit y) = 1 by omega]
    exact ⟨rfl, rfl, rfl⟩
end
section
/-! ===== Graph: changes, told by the whole graph put into the heap ===== -/
def gC (v : Ev) (g : Nat) (G : GT) : Nat → va_E
  | 0 => ob 3 (gFs g G)
  | 1 => aI v 15 (iF G.L)
  | 2 => aI v 15 (iF G.H)
  | 3 => aI v 36 (iF G.W)
  | 4 => aI v 6 (iF G.B)
  | _ => aI v 6 (iF G.O)
/-- the heap with the graph G at g -/
def gH (v : Ev) (h : Hp) (g : Nat) (G : GT) : Hp := fun q => if g ≤ q ∧ q < g + 6 then some (gC v g G (q - g)) else h q
theorem gH_in (v : Ev) (h : Hp) (g : Nat) (G : GT) {k : Nat} (hk : k < 6) : gH v h g G (g + k) = some (gC v g G k) := by
  unfold gH
  rw [if_pos (by omega), Nat.add_sub_cancel_left]
theorem gH_out (v : Ev) (h : Hp) (g : Nat) (G : GT) {q : Nat} (hq : q < g ∨ g + 6 ≤ q) : gH v h g G q = h q := by
  unfold gH
  rw [if_neg (by omega)]
theorem gH_is (v : Ev) (h : Hp) (g : Nat) (G : GT) : isG v (gH v h g G) g G :=
  ⟨gH_in v h g G (k := 0) (by omega), gH_in v h g G (k := 1) (by omega), gH_in v h g G (k := 2) (by omega), gH_in v h g G (k := 3) (by omega), gH_in v h g G (k := 4) (by omega), gH_in v h g G (k := 5) (by omega)⟩
theorem gH_ext {v : Ev} {h h' : Hp} {g : Nat} {G : GT} (hg : isG v h' g G) (ho : ∀ q, (q < g ∨ g + 6 ≤ q) → h' q = h q) : h' = gH v h g G := by
  funext q
  by_cases hq : g ≤ q ∧ q < g + 6
  · obtain ⟨k, rfl⟩ : ∃ k, q = g + k := ⟨q - g, by omega⟩
    rw [gH_in v h g G (by omega)]
    obtain ⟨h0, h1, h2, h3, h4, h5⟩ := hg
    rcases (show k = 0 ∨ k = 1 ∨ k = 2 ∨ k = 3 ∨ k = 4 ∨ k = 5 by omega) with rfl | rfl | rfl | rfl | rfl | rfl
    · exact h0
    · exact h1
    · exact h2
    · exact h3
    · exact h4
    · exact h5
  · rw [gH_out v h g G (by omega)]
    exact ho q (by omega)
theorem gH_self {v : Ev} {h : Hp} {g : Nat} {G : GT} (hg : isG v h g G) : gH v h g G = h := (gH_ext hg (fun _ _ => rfl)).symm
theorem gH_gH (v : Ev) (h : Hp) (g : Nat) (G G2 : GT) : gH v (gH v h g G) g G2 = gH v h g G2 := by
  refine gH_ext (gH_is _ _ _ _) (fun q hq => ?_)
  rw [gH_out _ _ _ _ hq, gH_out _ _ _ _ hq]
theorem gH_to {v : Ev} {h h0 h' : Hp} {g : Nat} {G : GT} (hg : isG v h' g G) (h1 : ∀ q, (q < g ∨ g + 6 ≤ q) → h' q = h q) (h2 : ∀ q, (q < g ∨ g + 6 ≤ q) → h q = h0 q) : h' = gH v h0 g G := gH_ext hg (fun q hq => (h1 q hq).trans (h2 q hq))
theorem gH_p0 {v : Ev} {h : Hp} {g : Nat} (G : GT) (n e a b : Nat) : hp (gH v h g G) g (ob 3 (gFs g (G.sc n e a b))) = gH v h g (G.sc n e a b) := gH_to ((gH_is v h g G).p0 n e a b) (fun q hq => hp_ne _ _ (by omega)) (fun q hq => gH_out v h g G hq)
theorem gH_pF {v : Ev} {h : Hp} {g : Nat} (G : GT) (F : Nat) : hp (gH v h g G) g (ob 3 (gFs g (G.sF F))) = gH v h g (G.sF F) := gH_to ((gH_is v h g G).pF F) (fun q hq => hp_ne _ _ (by omega)) (fun q hq => gH_out v h g G hq)
theorem gH_pL {v : Ev} {h : Hp} {g : Nat} (G : GT) (L : Nat → Nat) : hp (gH v h g G) (g + 1) (aI v 15 (iF L)) = gH v h g (G.sL L) := gH_to ((gH_is v h g G).pL L) (fun q hq => hp_ne _ _ (by omega)) (fun q hq => gH_out v h g G hq)
theorem gH_pH {v : Ev} {h : Hp} {g : Nat} (G : GT) (L : Nat → Nat) : hp (gH v h g G) (g + 2) (aI v 15 (iF L)) = gH v h g (G.sH L) := gH_to ((gH_is v h g G).pH L) (fun q hq => hp_ne _ _ (by omega)) (fun q hq => gH_out v h g G hq)
theorem gH_pW {v : Ev} {h : Hp} {g : Nat} (G : GT) (L : Nat → Nat) : hp (gH v h g G) (g + 3) (aI v 36 (iF L)) = gH v h g (G.sW L) := gH_to ((gH_is v h g G).pW L) (fun q hq => hp_ne _ _ (by omega)) (fun q hq => gH_out v h g G hq)
theorem gH_pB {v : Ev} {h : Hp} {g : Nat} (G : GT) (L : Nat → Nat) : hp (gH v h g G) (g + 4) (aI v 6 (iF L)) = gH v h g (G.sB L) := gH_to ((gH_is v h g G).pB L) (fun q hq => hp_ne _ _ (by omega)) (fun q hq => gH_out v h g G hq)
theorem gH_pO {v : Ev} {h : Hp} {g : Nat} (G : GT) (L : Nat → Nat) : hp (gH v h g G) (g + 5) (aI v 6 (iF L)) = gH v h g (G.sO L) := gH_to ((gH_is v h g G).pO L) (fun q hq => hp_ne _ _ (by omega)) (fun q hq => gH_out v h g G hq)
def pWt (W : Nat → Nat) (a b w : Nat) : Nat → Nat := upN (upN W (a * 6 + b) w) (b * 6 + a) w
theorem c_putW2 {v : Ev} {h : Hp} {top g : Nat} {G : GT} {a b w : Nat} (ha : a < 6) (hb : b < 6) : Cal v mX3_putWeight 1 0 0 [.ref g, .int (nI a), .int (nI b), .int (nI w)] (gH v h g G) top (pV (gH v h g (G.sW (pWt G.W a b w))) top) noX := by
  have h1 := c_putW (top := top) (gH_is v h g G) (w := w) ha hb
  rw [gH_pW] at h1
  exact h1
theorem iF_cpF (f g : Nat → Nat) (n : Nat) : cpF (iF f) (iF g) n = iF (cpF f g n) := by
  funext k
  show (if k < n then nI (f k) else nI (g k)) = nI (if k < n then f k else g k)
  split <;> rfl
/-- the first place below n where p holds, or n -/
def fstN (p : Nat → Bool) : Nat → Nat
  | 0 => 0
  | n + 1 => if fstN p n < n then fstN p n else if p n then n else n + 1
theorem fstN_spec (p : Nat → Bool) : ∀ n, fstN p n ≤ n ∧ (∀ j, j < fstN p n → p j = false) ∧ (fstN p n < n → p (fstN p n) = true)
  | 0 => ⟨Nat.le_refl _, fun j hj => by simp [fstN] at hj, fun q => by simp [fstN] at q⟩
  | n + 1 => by
    obtain ⟨h1, h2, h3⟩ := fstN_spec p n
    rw [fstN]
    split
    · next q => exact ⟨by omega, h2, fun _ => h3 q⟩
    · next q =>
      have e : fstN p n = n := by omega
      rw [e] at h2
      split
      · next q2 => exact ⟨by omega, h2, fun _ => q2⟩
      · next q2 =>
        refine ⟨Nat.le_refl _, fun j hj => ?_, fun q3 => absurd q3 (by omega)⟩
        by_cases hj2 : j < n
        · exact h2 j hj2
        · have : j = n := by omega
          subst this
          simpa using q2
theorem fstN_is {p : Nat → Bool} {n k : Nat} (hk : k ≤ n) (h1 : ∀ j, j < k → p j = false) (h2 : k = n ∨ p k = true) : fstN p n = k := by
  obtain ⟨g1, g2, g3⟩ := fstN_spec p n
  rcases Nat.lt_trichotomy (fstN p n) k with q | q | q
  · have := h1 _ q
    rw [g3 (by omega)] at this
    cases this
  · exact q
  · have := g2 k q
    rcases h2 with h2 | h2
    · omega
    · rw [h2] at this; cases this
/-- the blocks numbered anew, after v vertices: the row and how many -/
def numL (B : Nat → Nat) : Nat → (Nat → Nat) × Nat
  | 0 => (B, 0)
  | v + 1 => if fstN (fun k => B k == B v) v < v then (upN (numL B v).1 v ((numL B v).1 (fstN (fun k => B k == B v) v)), (numL B v).2) else (upN (numL B v).1 v (numL B v).2, (numL B v).2 + 1)
def GT.num (G : GT) : GT := ((G.sO (cpF G.B G.O 6)).sB (numL G.B G.n).1).sc G.n G.e G.a (numL G.B G.n).2
theorem c_numB {v : Ev} {h : Hp} {top g : Nat} {G : GT} (hn : G.n ≤ 6) (hB : ∀ k, k < 6 → G.B k < 2147483648) : Cal v mX3_numberBlocks 2 0 0 [.ref g] (gH v h g G) top (pV (gH v h g G.num) top) noX := by
  refine Cal.ofJ (by decide +kernel) rfl (Nat.le_of_ble_eq_true rfl) fun hz0 => ?_
  refine r_ls [some (.ref g), none, none] rfl ?_
  have hg := gH_is v h g G
  refine r_aload_n (pc := 0) (i := 0) (tX3_numberBlocks.at 0 rfl) rfl rfl ?_
  refine r_get (pc := 1) (tX3_numberBlocks.at 1 rfl) gf_X3_34 (hg.1) rfl ?_
  refine r_iconst (pc := 4) (w := nI 0) (tX3_numberBlocks.at 2 rfl) (by decide) ?_
  refine r_aload_n (pc := 5) (i := 0) (tX3_numberBlocks.at 3 rfl) rfl rfl ?_
  refine r_get (pc := 6) (tX3_numberBlocks.at 4 rfl) gf_X3_37 (hg.1) rfl ?_
  refine r_iconst (pc := 9) (w := nI 0) (tX3_numberBlocks.at 5 rfl) (by decide) ?_
  refine r_bipush (pc := 10) (w := nI 6) (tX3_numberBlocks.at 6 rfl) (by decide) ?_
  refine r_acopyI (pc := 12) _ (tX3_numberBlocks.at 7 rfl) ml_X3_46 (hg.2.2.2.2.1) (hg.2.2.2.2.2) (by omega) rfl rfl rfl (Nat.le_of_ble_eq_true rfl) (Nat.le_of_ble_eq_true rfl) (Nat.le_of_ble_eq_true rfl) (Nat.le_refl _) (Nat.le_of_ble_eq_true rfl) (Nat.le_of_ble_eq_true rfl) ?_
  rw [iF_cpF, gH_pO]
  have hg1 := gH_is v h g (G.sO (cpF G.B G.O 6))
  refine r_aload_n (pc := 15) (i := 0) (tX3_numberBlocks.at 8 rfl) rfl rfl ?_
  refine r_iconst (pc := 16) (w := nI 0) (tX3_numberBlocks.at 9 rfl) (by decide) ?_
  refine r_put (pc := 17) (tX3_numberBlocks.at 10 rfl) pf_X3_21 (hg1.1) (Nat.le_of_ble_eq_true rfl) (rfl) (rfl) ?_
  refine r_eq (gH_p0 (G.sO (cpF G.B G.O 6)) G.n G.e G.a 0) rfl ?_
  refine r_iconst (pc := 20) (w := nI 0) (tX3_numberBlocks.at 11 rfl) (by decide) ?_
  refine r_istore_n (pc := 21) (i := 1) (tX3_numberBlocks.at 12 rfl) rfl (by decide) ?_
  refine down (n := G.n) (P := fun u => J v mX3_numberBlocks (rmOf 2 0 0) (KM v (pV (gH v h g G.num) top) noX 0 0) top 0 0 (gH v h g (((G.sO (cpF G.B G.O 6)).sB (numL G.B u).1).sc G.n G.e G.a (numL G.B u).2)) top 22 [some (.ref g), some (.int (nI u)), none] []) ?_ ?_ 0 (by omega)
  · have hg2 := gH_is v h g (((G.sO (cpF G.B G.O 6)).sB (numL G.B G.n).1).sc G.n G.e G.a (numL G.B G.n).2)
    refine r_iload_n (pc := 22) (i := 1) (tX3_numberBlocks.at 13 rfl) rfl rfl ?_
    refine r_aload_n (pc := 23) (i := 0) (tX3_numberBlocks.at 14 rfl) rfl rfl ?_
    refine r_get (pc := 24) (tX3_numberBlocks.at 15 rfl) gf_X3_9 (hg2.1) rfl ?_
    rw [show (((G.sO (cpF G.B G.O 6)).sB (numL G.B G.n).1).sc G.n G.e G.a (numL G.B G.n).2).n = G.n from rfl]
    refine r_icmp_geN (pc := 27) 104 (tX3_numberBlocks.at 16 rfl) (by decide) (by omega) (by omega) (fun _ => ?_) (fun c => by omega)
    refine r_vret (pc := 104) (tX3_numberBlocks.at 59 rfl) rfl (Nat.le_of_ble_eq_true rfl) (Nat.le_of_ble_eq_true rfl) ?_
    exact ⟨rfl, rfl, rfl⟩
  · intro u hu ih
    have hg2 := gH_is v h g (((G.sO (cpF G.B G.O 6)).sB (numL G.B u).1).sc G.n G.e G.a (numL G.B u).2)
    generalize hX : ((G.sO (cpF G.B G.O 6)).sB (numL G.B u).1).sc G.n G.e G.a (numL G.B u).2 = X at hg2 ⊢
    have eN : X.n = G.n := by rw [← hX]; rfl
    have eO : ∀ k, k < 6 → X.O k = G.B k := fun k hk => by rw [← hX]; exact if_pos hk
    have eB : X.B = (numL G.B u).1 := by rw [← hX]; rfl
    have eb : X.b = (numL G.B u).2 := by rw [← hX]; rfl
    refine r_iload_n (pc := 22) (i := 1) (tX3_numberBlocks.at 13 rfl) rfl rfl ?_
    refine r_aload_n (pc := 23) (i := 0) (tX3_numberBlocks.at 14 rfl) rfl rfl ?_
    refine r_get (pc := 24) (tX3_numberBlocks.at 15 rfl) gf_X3_9 (hg2.1) rfl ?_
    rw [eN]
    refine r_icmp_geN (pc := 27) 104 (tX3_numberBlocks.at 16 rfl) (by decide) (by omega) (by omega) (fun c => by omega) (fun _ => ?_)
    refine r_iconst (pc := 30) (w := nI 0) (tX3_numberBlocks.at 17 rfl) (by decide) ?_
    refine r_istore_n (pc := 31) (i := 2) (tX3_numberBlocks.at 18 rfl) rfl (by decide) ?_
    have hend : J v mX3_numberBlocks (rmOf 2 0 0) (KM v (pV (gH v h g G.num) top) noX 0 0) top 0 0 (gH v h g X) top 58 [some (.ref g), some (.int (nI u)), some (.int (nI (fstN (fun k => G.B k == G.B u) u)))] [] := by
      have hf := (fstN_spec (fun k => G.B k == G.B u) u).1
      refine r_iload_n (pc := 58) (i := 2) (tX3_numberBlocks.at 33 rfl) rfl rfl ?_
      refine r_iload_n (pc := 59) (i := 1) (tX3_numberBlocks.at 34 rfl) rfl rfl ?_
      refine r_icmp_geN (pc := 60) 78 (tX3_numberBlocks.at 35 rfl) (by decide) (by omega) (by omega) (fun c => ?_) (fun c => ?_)
      · refine r_aload_n (pc := 78) (i := 0) (tX3_numberBlocks.at 45 rfl) rfl rfl ?_
        refine r_get (pc := 79) (tX3_numberBlocks.at 46 rfl) gf_X3_34 (hg2.1) rfl ?_
        refine r_iload_n (pc := 82) (i := 1) (tX3_numberBlocks.at 47 rfl) rfl rfl ?_
        refine r_aload_n (pc := 83) (i := 0) (tX3_numberBlocks.at 48 rfl) rfl rfl ?_
        refine r_get (pc := 84) (tX3_numberBlocks.at 49 rfl) gf_X3_21 (hg2.1) rfl ?_
        refine r_iast (pc := 87) (tX3_numberBlocks.at 50 rfl) (hg2.2.2.2.2.1) (u) (rfl) (by omega) (Nat.le_of_ble_eq_true rfl) ?_
        rw [upd_iF, gH_pB]
        have hg3 := gH_is v h g (X.sB (upN X.B u X.b))
        refine r_aload_n (pc := 88) (i := 0) (tX3_numberBlocks.at 51 rfl) rfl rfl ?_
        refine r_dup (pc := 89) (tX3_numberBlocks.at 52 rfl) rfl ?_
        refine r_get (pc := 90) (tX3_numberBlocks.at 53 rfl) gf_X3_21 (hg3.1) rfl ?_
        refine r_iconst (pc := 93) (w := nI 1) (tX3_numberBlocks.at 54 rfl) (by decide) ?_
        first | refine r_iaddN (pc := 94) (tX3_numberBlocks.at 55 rfl) ?_ | refine r_iadd (pc := 94) (tX3_numberBlocks.at 55 rfl) ?_
        refine r_put (pc := 95) (tX3_numberBlocks.at 56 rfl) pf_X3_21 (hg3.1) (Nat.le_of_ble_eq_true rfl) (rfl) (rfl) ?_
        refine r_eq (gH_p0 (X.sB (upN X.B u X.b)) X.n X.e X.a (X.b + 1)) rfl ?_
        first | refine r_iincN (pc := 98) (tX3_numberBlocks.at 57 rfl) rfl (by decide) ?_ | refine r_iinc (pc := 98) (tX3_numberBlocks.at 57 rfl) rfl rfl (by decide) ?_
        refine r_goto (pc := 101) 22 (tX3_numberBlocks.at 58 rfl) (by decide) ?_
        refine r_sub _ (fun i w hw => ?_) (r_eq ?_ rfl ih)
        · match i, hw with
          | 0, hw => exact hw
          | 1, hw => exact hw
          | 2, hw => cases hw
        · rw [← hX, numL, if_neg (by omega)]
          rfl
      · refine r_aload_n (pc := 63) (i := 0) (tX3_numberBlocks.at 36 rfl) rfl rfl ?_
        refine r_get (pc := 64) (tX3_numberBlocks.at 37 rfl) gf_X3_34 (hg2.1) rfl ?_
        refine r_iload_n (pc := 67) (i := 1) (tX3_numberBlocks.at 38 rfl) rfl rfl ?_
        refine r_aload_n (pc := 68) (i := 0) (tX3_numberBlocks.at 39 rfl) rfl rfl ?_
        refine r_get (pc := 69) (tX3_numberBlocks.at 40 rfl) gf_X3_34 (hg2.1) rfl ?_
        refine r_iload_n (pc := 72) (i := 2) (tX3_numberBlocks.at 41 rfl) rfl rfl ?_
        refine r_iald (pc := 73) (tX3_numberBlocks.at 42 rfl) (hg2.2.2.2.2.1) (fstN (fun k => G.B k == G.B u) u) (rfl) (by omega) (Nat.le_of_ble_eq_true rfl) ?_
        refine r_iast (pc := 74) (tX3_numberBlocks.at 43 rfl) (hg2.2.2.2.2.1) (u) (rfl) (by omega) (Nat.le_of_ble_eq_true rfl) ?_
        rw [show iF X.B (fstN (fun k => G.B k == G.B u) u) = nI (X.B (fstN (fun k => G.B k == G.B u) u)) from rfl, upd_iF, gH_pB]
        refine r_goto (pc := 75) 98 (tX3_numberBlocks.at 44 rfl) (by decide) ?_
        first | refine r_iincN (pc := 98) (tX3_numberBlocks.at 57 rfl) rfl (by decide) ?_ | refine r_iinc (pc := 98) (tX3_numberBlocks.at 57 rfl) rfl rfl (by decide) ?_
        refine r_goto (pc := 101) 22 (tX3_numberBlocks.at 58 rfl) (by decide) ?_
        refine r_sub _ (fun i w hw => ?_) (r_eq ?_ rfl ih)
        · match i, hw with
          | 0, hw => exact hw
          | 1, hw => exact hw
          | 2, hw => cases hw
        · rw [← hX, numL, if_pos (by omega)]
          rfl
    have inner : ∀ m k, k + m = u → (∀ j, j < k → G.B j ≠ G.B u) → J v mX3_numberBlocks (rmOf 2 0 0) (KM v (pV (gH v h g G.num) top) noX 0 0) top 0 0 (gH v h g X) top 32 [some (.ref g), some (.int (nI u)), some (.int (nI k))] [] := by
      intro m
      induction m with
      | zero =>
        intro k hk hj
        have hk : k = u := by omega
        subst hk
        refine r_iload_n (pc := 32) (i := 2) (tX3_numberBlocks.at 19 rfl) rfl rfl ?_
        refine r_iload_n (pc := 33) (i := 1) (tX3_numberBlocks.at 20 rfl) rfl rfl ?_
        refine r_icmp_geN (pc := 34) 58 (tX3_numberBlocks.at 21 rfl) (by decide) (by omega) (by omega) (fun _ => ?_) (fun c => by omega)
        rw [fstN_is (Nat.le_refl _) (fun j hj2 => by simpa using hj j hj2) (Or.inl rfl)] at hend
        exact hend
      | succ m ih3 =>
        intro k hk hj
        refine r_iload_n (pc := 32) (i := 2) (tX3_numberBlocks.at 19 rfl) rfl rfl ?_
        refine r_iload_n (pc := 33) (i := 1) (tX3_numberBlocks.at 20 rfl) rfl rfl ?_
        refine r_icmp_geN (pc := 34) 58 (tX3_numberBlocks.at 21 rfl) (by decide) (by omega) (by omega) (fun c => by omega) (fun _ => ?_)
        refine r_aload_n (pc := 37) (i := 0) (tX3_numberBlocks.at 22 rfl) rfl rfl ?_
        refine r_get (pc := 38) (tX3_numberBlocks.at 23 rfl) gf_X3_37 (hg2.1) rfl ?_
        refine r_iload_n (pc := 41) (i := 2) (tX3_numberBlocks.at 24 rfl) rfl rfl ?_
        refine r_iald (pc := 42) (tX3_numberBlocks.at 25 rfl) (hg2.2.2.2.2.2) (k) (rfl) (by omega) (Nat.le_of_ble_eq_true rfl) ?_
        refine r_aload_n (pc := 43) (i := 0) (tX3_numberBlocks.at 26 rfl) rfl rfl ?_
        refine r_get (pc := 44) (tX3_numberBlocks.at 27 rfl) gf_X3_37 (hg2.1) rfl ?_
        refine r_iload_n (pc := 47) (i := 1) (tX3_numberBlocks.at 28 rfl) rfl rfl ?_
        refine r_iald (pc := 48) (tX3_numberBlocks.at 29 rfl) (hg2.2.2.2.2.2) (u) (rfl) (by omega) (Nat.le_of_ble_eq_true rfl) ?_
        rw [show iF X.O k = nI (G.B k) from congrArg nI (eO k (by omega)), show iF X.O u = nI (G.B u) from congrArg nI (eO u (by omega))]
        have b1 := hB k (by omega)
        have b2 := hB u (by omega)
        refine r_icmp_eqN (pc := 49) 58 (tX3_numberBlocks.at 30 rfl) (by decide) b1 b2 (fun c => ?_) (fun c => ?_)
        · rw [fstN_is (show k ≤ u by omega) (fun j hj2 => by simpa using hj j hj2) (Or.inr (by simpa using c))] at hend
          exact hend
        · first | refine r_iincN (pc := 52) (tX3_numberBlocks.at 31 rfl) rfl (by decide) ?_ | refine r_iinc (pc := 52) (tX3_numberBlocks.at 31 rfl) rfl rfl (by decide) ?_
          refine r_goto (pc := 55) 32 (tX3_numberBlocks.at 32 rfl) (by decide) ?_
          exact ih3 (k + 1) (by omega) (fun j hj2 => by
            by_cases h1 : j < k
            · exact hj j h1
            · have : j = k := by omega
              subst this
              exact c)
    exact r_sub _ (fun i w hw => hw) (inner u 0 (by omega) (fun j hj => by omega))
/-- the blocks of a and b are one -/
def unB (B : Nat → Nat) (a b u : Nat) : Nat → Nat := fun k => if k < u ∧ B k = B b then B a else B k
theorem unB_0 (B : Nat → Nat) (a b : Nat) : unB B a b 0 = B := by
  funext k
  unfold unB
  rw [if_neg (by omega)]
theorem unB_s (B : Nat → Nat) (a b u : Nat) : unB B a b (u + 1) = if B u = B b then upN (unB B a b u) u (B a) else unB B a b u := by
  funext k
  by_cases hk : k = u
  · subst hk
    split
    · next q => rw [upN_eq]; unfold unB; rw [if_pos ⟨by omega, q⟩]
    · next q => unfold unB; rw [if_neg (fun z => q z.2), if_neg (fun z => q z.2)]
  · have e1 : unB B a b (u + 1) k = unB B a b u k := by
      unfold unB
      by_cases h1 : k < u
      · by_cases h2 : B k = B b
        · rw [if_pos ⟨by omega, h2⟩, if_pos ⟨h1, h2⟩]
        · rw [if_neg (fun z => h2 z.2), if_neg (fun z => h2 z.2)]
      · rw [if_neg (by omega), if_neg (by omega)]
    rw [e1]
    split
    · rw [upN_ne _ _ hk]
    · rfl
def GT.unite (G : GT) (a b : Nat) : GT := (G.sB (unB G.B a b G.n)).num
theorem c_unite {v : Ev} {h : Hp} {top g : Nat} {G : GT} (hn : G.n ≤ 6) (hB : ∀ k, k < 6 → G.B k < 2147483648) {a b : Nat} (ha : a < 6) (hb : b < 6) : Cal v mX3_uniteBlocks 3 0 0 [.ref g, .int (nI a), .int (nI b)] (gH v h g G) top (pV (gH v h g (G.unite a b)) top) noX := by
  refine Cal.ofJ (by decide +kernel) rfl (Nat.le_of_ble_eq_true rfl) fun hz0 => ?_
  refine r_ls [some (.ref g), some (.int (nI a)), some (.int (nI b)), none, none, none] rfl ?_
  have hg := gH_is v h g G
  refine r_aload_n (pc := 0) (i := 0) (tX3_uniteBlocks.at 0 rfl) rfl rfl ?_
  refine r_get (pc := 1) (tX3_uniteBlocks.at 1 rfl) gf_X3_34 (hg.1) rfl ?_
  refine r_iload_n (pc := 4) (i := 1) (tX3_uniteBlocks.at 2 rfl) rfl rfl ?_
  refine r_iald (pc := 5) (tX3_uniteBlocks.at 3 rfl) (hg.2.2.2.2.1) (a) (rfl) (by omega) (Nat.le_of_ble_eq_true rfl) ?_
  refine r_istore_n (pc := 6) (i := 3) (tX3_uniteBlocks.at 4 rfl) rfl (by decide) ?_
  refine r_aload_n (pc := 7) (i := 0) (tX3_uniteBlocks.at 5 rfl) rfl rfl ?_
  refine r_get (pc := 8) (tX3_uniteBlocks.at 6 rfl) gf_X3_34 (hg.1) rfl ?_
  refine r_iload_n (pc := 11) (i := 2) (tX3_uniteBlocks.at 7 rfl) rfl rfl ?_
  refine r_iald (pc := 12) (tX3_uniteBlocks.at 8 rfl) (hg.2.2.2.2.1) (b) (rfl) (by omega) (Nat.le_of_ble_eq_true rfl) ?_
  refine r_istore (pc := 13) (i := 4) (tX3_uniteBlocks.at 9 rfl) (by decide) ?_
  refine r_iconst (pc := 15) (w := nI 0) (tX3_uniteBlocks.at 10 rfl) (by decide) ?_
  refine r_istore (pc := 16) (i := 5) (tX3_uniteBlocks.at 11 rfl) (by decide) ?_
  refine r_eq (h2 := gH v h g (G.sB (unB G.B a b 0))) (by rw [unB_0]; rfl) rfl ?_
  refine down (n := G.n) (P := fun u => J v mX3_uniteBlocks (rmOf 3 0 0) (KM v (pV (gH v h g (G.unite a b)) top) noX 0 0) top 0 0 (gH v h g (G.sB (unB G.B a b u))) top 18 [some (.ref g), some (.int (nI a)), some (.int (nI b)), some (.int (nI (G.B a))), some (.int (nI (G.B b))), some (.int (nI u))] []) ?_ ?_ 0 (by omega)
  · have hg2 := gH_is v h g (G.sB (unB G.B a b G.n))
    refine r_iload (pc := 18) (i := 5) (tX3_uniteBlocks.at 12 rfl) rfl ?_
    refine r_aload_n (pc := 20) (i := 0) (tX3_uniteBlocks.at 13 rfl) rfl rfl ?_
    refine r_get (pc := 21) (tX3_uniteBlocks.at 14 rfl) gf_X3_9 (hg2.1) rfl ?_
    rw [show (G.sB (unB G.B a b G.n)).n = G.n from rfl]
    refine r_icmp_geN (pc := 24) 53 (tX3_uniteBlocks.at 15 rfl) (by decide) (by omega) (by omega) (fun _ => ?_) (fun c => by omega)
    have hB2 : ∀ k, k < 6 → (G.sB (unB G.B a b G.n)).B k < 2147483648 := fun k hk => by
      show unB G.B a b G.n k < _
      unfold unB
      split
      · exact hB a ha
      · exact hB k hk
    refine r_aload_n (pc := 53) (i := 0) (tX3_uniteBlocks.at 29 rfl) rfl rfl ?_
    refine r_callV (M' := mX3_numberBlocks) (pc := 54) (tX3_uniteBlocks.at 30 rfl) ml_X3_90 rfl mw_X3_numberBlocks ⟨by decide, by decide⟩ (hg2.1) rfl rfl (c_numB (G := G.sB (unB G.B a b G.n)) hn hB2) rfl rfl (Nat.le_of_ble_eq_true rfl) (Nat.le_of_ble_eq_true rfl) (Nat.le_of_ble_eq_true rfl) ?_
    rintro _ _ _ ⟨rfl, rfl, rfl⟩
    refine r_vret (pc := 57) (tX3_uniteBlocks.at 31 rfl) rfl (Nat.le_of_ble_eq_true rfl) (Nat.le_of_ble_eq_true rfl) ?_
    exact ⟨rfl, rfl, rfl⟩
  · intro u hu ih
    have hg2 := gH_is v h g (G.sB (unB G.B a b u))
    have eu : (G.sB (unB G.B a b u)).B u = G.B u := by
      show unB G.B a b u u = _
      unfold unB
      rw [if_neg (by omega)]
    refine r_iload (pc := 18) (i := 5) (tX3_uniteBlocks.at 12 rfl) rfl ?_
    refine r_aload_n (pc := 20) (i := 0) (tX3_uniteBlocks.at 13 rfl) rfl rfl ?_
    refine r_get (pc := 21) (tX3_uniteBlocks.at 14 rfl) gf_X3_9 (hg2.1) rfl ?_
    rw [show (G.sB (unB G.B a b u)).n = G.n from rfl]
    refine r_icmp_geN (pc := 24) 53 (tX3_uniteBlocks.at 15 rfl) (by decide) (by omega) (by omega) (fun c => by omega) (fun _ => ?_)
    refine r_aload_n (pc := 27) (i := 0) (tX3_uniteBlocks.at 16 rfl) rfl rfl ?_
    refine r_get (pc := 28) (tX3_uniteBlocks.at 17 rfl) gf_X3_34 (hg2.1) rfl ?_
    refine r_iload (pc := 31) (i := 5) (tX3_uniteBlocks.at 18 rfl) rfl ?_
    refine r_iald (pc := 33) (tX3_uniteBlocks.at 19 rfl) (hg2.2.2.2.2.1) (u) (rfl) (by omega) (Nat.le_of_ble_eq_true rfl) ?_
    refine r_iload (pc := 34) (i := 4) (tX3_uniteBlocks.at 20 rfl) rfl ?_
    rw [show iF (G.sB (unB G.B a b u)).B u = nI (G.B u) from congrArg nI eu]
    have b1 := hB u (by omega)
    have b2 := hB b hb
    rw [unB_s] at ih
    refine r_icmp_neN (pc := 36) 47 (tX3_uniteBlocks.at 21 rfl) (by decide) (by omega) (by omega) (fun c => ?_) (fun c => ?_)
    · first | refine r_iincN (pc := 47) (tX3_uniteBlocks.at 27 rfl) rfl (by decide) ?_ | refine r_iinc (pc := 47) (tX3_uniteBlocks.at 27 rfl) rfl rfl (by decide) ?_
      refine r_goto (pc := 50) 18 (tX3_uniteBlocks.at 28 rfl) (by decide) ?_
      rw [if_neg c] at ih
      exact ih
    · refine r_aload_n (pc := 39) (i := 0) (tX3_uniteBlocks.at 22 rfl) rfl rfl ?_
      refine r_get (pc := 40) (tX3_uniteBlocks.at 23 rfl) gf_X3_34 (hg2.1) rfl ?_
      refine r_iload (pc := 43) (i := 5) (tX3_uniteBlocks.at 24 rfl) rfl ?_
      refine r_iload_n (pc := 45) (i := 3) (tX3_uniteBlocks.at 25 rfl) rfl rfl ?_
      refine r_iast (pc := 46) (tX3_uniteBlocks.at 26 rfl) (hg2.2.2.2.2.1) (u) (rfl) (by omega) (Nat.le_of_ble_eq_true rfl) ?_
      rw [upd_iF, gH_pB]
      first | refine r_iincN (pc := 47) (tX3_uniteBlocks.at 27 rfl) rfl (by decide) ?_ | refine r_iinc (pc := 47) (tX3_uniteBlocks.at 27 rfl) rfl rfl (by decide) ?_
      refine r_goto (pc := 50) 18 (tX3_uniteBlocks.at 28 rfl) (by decide) ?_
      rw [if_pos c] at ih
      exact ih
def GT.isol (G : GT) (x : Nat) : GT := (G.sB (upN G.B x 6)).num
theorem c_isol {v : Ev} {h : Hp} {top g : Nat} {G : GT} (hn : G.n ≤ 6) (hB : ∀ k, k < 6 → G.B k < 2147483648) {x : Nat} (hx : x < 6) : Cal v mX3_isolateInBlock 3 0 0 [.ref g, .int (nI x)] (gH v h g G) top (pV (gH v h g (G.isol x)) top) noX := by
  refine Cal.ofJ (by decide +kernel) rfl (Nat.le_of_ble_eq_true rfl) fun hz0 => ?_
  refine r_ls [some (.ref g), some (.int (nI x))] rfl ?_
  have hg := gH_is v h g G
  refine r_aload_n (pc := 0) (i := 0) (tX3_isolateInBlock.at 0 rfl) rfl rfl ?_
  refine r_get (pc := 1) (tX3_isolateInBlock.at 1 rfl) gf_X3_34 (hg.1) rfl ?_
  refine r_iload_n (pc := 4) (i := 1) (tX3_isolateInBlock.at 2 rfl) rfl rfl ?_
  refine r_bipush (pc := 5) (w := nI 6) (tX3_isolateInBlock.at 3 rfl) (by decide) ?_
  refine r_iast (pc := 7) (tX3_isolateInBlock.at 4 rfl) (hg.2.2.2.2.1) (x) (rfl) (by omega) (Nat.le_of_ble_eq_true rfl) ?_
  rw [upd_iF, gH_pB]
  have hg2 := gH_is v h g (G.sB (upN G.B x 6))
  have hB2 : ∀ k, k < 6 → (G.sB (upN G.B x 6)).B k < 2147483648 := fun k hk => by
    show upN G.B x 6 k < _
    unfold upN
    split
    · omega
    · exact hB k hk
  refine r_aload_n (pc := 8) (i := 0) (tX3_isolateInBlock.at 5 rfl) rfl rfl ?_
  refine r_callV (M' := mX3_numberBlocks) (pc := 9) (tX3_isolateInBlock.at 6 rfl) ml_X3_90 rfl mw_X3_numberBlocks ⟨by decide, by decide⟩ (hg2.1) rfl rfl (c_numB (G := G.sB (upN G.B x 6)) hn hB2) rfl rfl (Nat.le_of_ble_eq_true rfl) (Nat.le_of_ble_eq_true rfl) (Nat.le_of_ble_eq_true rfl) ?_
  rintro _ _ _ ⟨rfl, rfl, rfl⟩
  refine r_vret (pc := 12) (tX3_isolateInBlock.at 7 rfl) rfl (Nat.le_of_ble_eq_true rfl) (Nat.le_of_ble_eq_true rfl) ?_
  exact ⟨rfl, rfl, rfl⟩
end
section
/-! ===== longs told by Int; Fraction; Arrays.fill ===== -/
def lI (z : Int) : Int64 := Int64.ofInt z
def inL (z : Int) : Prop := -9223372036854775808 ≤ z ∧ z ≤ 9223372036854775807
theorem lI_add (a b : Int) : lI a + lI b = lI (a + b) := (Int64.ofInt_add a b).symm
theorem lI_sub (a b : Int) : lI a - lI b = lI (a - b) := (Int64.ofInt_sub a b).symm
theorem lI_mul (a b : Int) : lI a * lI b = lI (a * b) := (Int64.ofInt_mul a b).symm
theorem lI_neg (a : Int) : -lI a = lI (-a) := (Int64.ofInt_neg a).symm
theorem lI_toInt {z : Int} (h : inL z) : (lI z).toInt = z := Int64.toInt_ofInt_of_le (by have := h.1; omega) (by have := h.2; omega)
theorem lI_lt {a b : Int} (ha : inL a) (hb : inL b) : lI a < lI b ↔ a < b := by rw [Int64.lt_iff_toInt_lt, lI_toInt ha, lI_toInt hb]
theorem lI_le {a b : Int} (ha : inL a) (hb : inL b) : lI a ≤ lI b ↔ a ≤ b := by rw [Int64.le_iff_toInt_le, lI_toInt ha, lI_toInt hb]
theorem lI_eq {a b : Int} (ha : inL a) (hb : inL b) : lI a = lI b ↔ a = b := by rw [← Int64.toInt_inj, lI_toInt ha, lI_toInt hb]
theorem lI_div {a b : Int} (ha : inL a) (hb : inL b) : lI a / lI b = lI (a.tdiv b) := by
  have h1 : (Int64.minValue).toInt = -9223372036854775808 := by decide
  have h2 : (Int64.maxValue).toInt = 9223372036854775807 := by decide
  exact (Int64.ofInt_tdiv (by rw [h1]; exact ha.1) (by rw [h2]; exact ha.2) (by rw [h1]; exact hb.1) (by rw [h2]; exact hb.2)).symm
theorem lI_rem {a b : Int} (ha : inL a) (hb : inL b) : lI a - lI a / lI b * lI b = lI (a.tmod b) := by
  rw [lI_div ha hb, lI_mul, lI_sub]
  have := Int.tmod_add_mul_tdiv a b
  rw [Int.mul_comm] at this
  congr 1
  omega
theorem lI_ne0 {b : Int} (hb : inL b) (h0 : b ≠ 0) : ¬ lI b = 0 := fun q => h0 ((lI_eq hb (b := 0) ⟨by omega, by omega⟩).mp q)
theorem nI_toInt64 {k : Nat} (hk : k < 2147483648) : (nI k).toInt64 = lI k := by
  rw [← Int64.ofInt_int32ToInt, nI_toInt (by omega)]
  rfl
theorem lI_toInt32 (k : Nat) : (lI k).toInt32 = nI k := by
  show (Int64.ofInt k).toInt32 = _
  rw [Int64.toInt32_ofInt]
  exact Int32.ofInt_eq_ofNat
theorem inL_nat {k : Nat} (hk : k < 9223372036854775808) : inL k := ⟨by omega, by omega⟩
section
variable {v : Ev} {M : Md} {R : Room} {K : List Frame → Array Value → State → State → Prop} {t0 cells slots : Nat} {h : Hp} {top pc : Nat} {ls : List (Option Value)} {st : List Value}
theorem r_laddL {a b : Int} (d : decode M.2.1 pc = .ok (.ladd, 1)) (k : J v M R K t0 cells slots h top (pc + 1) ls (.long (lI (a + b)) :: st)) : J v M R K t0 cells slots h top pc ls (.long (lI b) :: .long (lI a) :: st) := r_ladd d (by rw [lI_add]; exact k)
theorem r_lsubL {a b : Int} (d : decode M.2.1 pc = .ok (.lsub, 1)) (k : J v M R K t0 cells slots h top (pc + 1) ls (.long (lI (a - b)) :: st)) : J v M R K t0 cells slots h top pc ls (.long (lI b) :: .long (lI a) :: st) := r_lsub d (by rw [lI_sub]; exact k)
theorem r_lmulL {a b : Int} (d : decode M.2.1 pc = .ok (.lmul, 1)) (k : J v M R K t0 cells slots h top (pc + 1) ls (.long (lI (a * b)) :: st)) : J v M R K t0 cells slots h top pc ls (.long (lI b) :: .long (lI a) :: st) := r_lmul d (by rw [lI_mul]; exact k)
theorem r_lnegL {a : Int} (d : decode M.2.1 pc = .ok (.lneg, 1)) (k : J v M R K t0 cells slots h top (pc + 1) ls (.long (lI (-a)) :: st)) : J v M R K t0 cells slots h top pc ls (.long (lI a) :: st) := r_lneg d (by rw [lI_neg]; exact k)
theorem r_ldivL {a b : Int} (d : decode M.2.1 pc = .ok (.ldiv, 1)) (ha : inL a) (hb : inL b) (h0 : b ≠ 0) (k : J v M R K t0 cells slots h top (pc + 1) ls (.long (lI (a.tdiv b)) :: st)) : J v M R K t0 cells slots h top pc ls (.long (lI b) :: .long (lI a) :: st) := r_ldiv d (lI_ne0 hb h0) (by rw [lI_div ha hb]; exact k)
theorem r_lremL {a b : Int} (d : decode M.2.1 pc = .ok (.lrem, 1)) (ha : inL a) (hb : inL b) (h0 : b ≠ 0) (k : J v M R K t0 cells slots h top (pc + 1) ls (.long (lI (a.tmod b)) :: st)) : J v M R K t0 cells slots h top pc ls (.long (lI b) :: .long (lI a) :: st) := r_lrem d (lI_ne0 hb h0) (by rw [lI_rem ha hb]; exact k)
theorem r_i2lN {a : Nat} (d : decode M.2.1 pc = .ok (.i2l, 1)) (ha : a < 2147483648) (k : J v M R K t0 cells slots h top (pc + 1) ls (.long (lI a) :: st)) : J v M R K t0 cells slots h top pc ls (.int (nI a) :: st) := r_i2l d (by rw [nI_toInt64 ha]; exact k)
theorem r_l2iN {a : Nat} (d : decode M.2.1 pc = .ok (.l2i, 1)) (k : J v M R K t0 cells slots h top (pc + 1) ls (.int (nI a) :: st)) : J v M R K t0 cells slots h top pc ls (.long (lI a) :: st) := r_l2i d (by rw [lI_toInt32]; exact k)
theorem r_lc_eq {a b : Int} {off : Int} (tgt : Nat) (d1 : decode M.2.1 pc = .ok (.lcmp, 1)) (d2 : decode M.2.1 (pc + 1) = .ok (.ifCond .eq off, 3)) (ht : ((pc + 1 : Nat) : Int) + off = (tgt : Int)) (ha : inL a) (hb : inL b) (kt : a = b → J v M R K t0 cells slots h top tgt ls st) (kf : a ≠ b → J v M R K t0 cells slots h top (pc + 1 + 3) ls st) : J v M R K t0 cells slots h top pc ls (.long (lI b) :: .long (lI a) :: st) := by
  refine r_lcmp d1 ?_
  exact r_if_eq tgt d2 ht (fun q => kt ((lI_eq ha hb).mp ((lg_cmp_eq _ _).mp q))) (fun q => kf (fun z => q ((lg_cmp_eq _ _).mpr ((lI_eq ha hb).mpr z))))
theorem r_lc_ne {a b : Int} {off : Int} (tgt : Nat) (d1 : decode M.2.1 pc = .ok (.lcmp, 1)) (d2 : decode M.2.1 (pc + 1) = .ok (.ifCond .ne off, 3)) (ht : ((pc + 1 : Nat) : Int) + off = (tgt : Int)) (ha : inL a) (hb : inL b) (kt : a ≠ b → J v M R K t0 cells slots h top tgt ls st) (kf : a = b → J v M R K t0 cells slots h top (pc + 1 + 3) ls st) : J v M R K t0 cells slots h top pc ls (.long (lI b) :: .long (lI a) :: st) := by
  refine r_lcmp d1 ?_
  exact r_if_ne tgt d2 ht (fun q => kt (fun z => q ((lg_cmp_eq _ _).mpr ((lI_eq ha hb).mpr z)))) (fun q => kf ((lI_eq ha hb).mp ((lg_cmp_eq _ _).mp q)))
theorem r_lc_lt {a b : Int} {off : Int} (tgt : Nat) (d1 : decode M.2.1 pc = .ok (.lcmp, 1)) (d2 : decode M.2.1 (pc + 1) = .ok (.ifCond .lt off, 3)) (ht : ((pc + 1 : Nat) : Int) + off = (tgt : Int)) (ha : inL a) (hb : inL b) (kt : a < b → J v M R K t0 cells slots h top tgt ls st) (kf : b ≤ a → J v M R K t0 cells slots h top (pc + 1 + 3) ls st) : J v M R K t0 cells slots h top pc ls (.long (lI b) :: .long (lI a) :: st) := by
  refine r_lcmp d1 ?_
  exact r_if_lt tgt d2 ht (fun q => kt ((lI_lt ha hb).mp ((lg_cmp_lt _ _).mp q))) (fun q => kf (Int.not_lt.mp (fun z => q ((lg_cmp_lt _ _).mpr ((lI_lt ha hb).mpr z)))))
theorem r_lc_ge {a b : Int} {off : Int} (tgt : Nat) (d1 : decode M.2.1 pc = .ok (.lcmp, 1)) (d2 : decode M.2.1 (pc + 1) = .ok (.ifCond .ge off, 3)) (ht : ((pc + 1 : Nat) : Int) + off = (tgt : Int)) (ha : inL a) (hb : inL b) (kt : b ≤ a → J v M R K t0 cells slots h top tgt ls st) (kf : a < b → J v M R K t0 cells slots h top (pc + 1 + 3) ls st) : J v M R K t0 cells slots h top pc ls (.long (lI b) :: .long (lI a) :: st) := by
  refine r_lcmp d1 ?_
  exact r_if_ge tgt d2 ht (fun q => kt ((lI_le hb ha).mp ((lg_cmp_ge _ _).mp q))) (fun q => kf (Int.not_le.mp (fun z => q ((lg_cmp_ge _ _).mpr ((lI_le hb ha).mpr z)))))
theorem r_lc_gt {a b : Int} {off : Int} (tgt : Nat) (d1 : decode M.2.1 pc = .ok (.lcmp, 1)) (d2 : decode M.2.1 (pc + 1) = .ok (.ifCond .gt off, 3)) (ht : ((pc + 1 : Nat) : Int) + off = (tgt : Int)) (ha : inL a) (hb : inL b) (kt : b < a → J v M R K t0 cells slots h top tgt ls st) (kf : a ≤ b → J v M R K t0 cells slots h top (pc + 1 + 3) ls st) : J v M R K t0 cells slots h top pc ls (.long (lI b) :: .long (lI a) :: st) := by
  refine r_lcmp d1 ?_
  exact r_if_gt tgt d2 ht (fun q => kt ((lI_lt hb ha).mp ((lg_cmp_gt _ _).mp q))) (fun q => kf (Int.not_lt.mp (fun z => q ((lg_cmp_gt _ _).mpr ((lI_lt hb ha).mpr z)))))
theorem r_lc_le {a b : Int} {off : Int} (tgt : Nat) (d1 : decode M.2.1 pc = .ok (.lcmp, 1)) (d2 : decode M.2.1 (pc + 1) = .ok (.ifCond .le off, 3)) (ht : ((pc + 1 : Nat) : Int) + off = (tgt : Int)) (ha : inL a) (hb : inL b) (kt : a ≤ b → J v M R K t0 cells slots h top tgt ls st) (kf : b < a → J v M R K t0 cells slots h top (pc + 1 + 3) ls st) : J v M R K t0 cells slots h top pc ls (.long (lI b) :: .long (lI a) :: st) := by
  refine r_lcmp d1 ?_
  exact r_if_le tgt d2 ht (fun q => kt ((lI_le ha hb).mp ((lg_cmp_le _ _).mp q))) (fun q => kf (Int.not_le.mp (fun z => q ((lg_cmp_le _ _).mpr ((lI_le ha hb).mpr z)))))
theorem r_mminL {idx : Nat} {x y : Int64} (d : decode M.2.1 pc = .ok (.invokestatic idx, 3)) (w1 : Cond.methodLink M.1.cls idx Lib.MathLoose.min_long.x ∈ big) (w2 : Cond.static Lib.MathLoose.min_long.x ∈ big) (w3 : Cond.initialized "java/lang/Math" ∈ big) (w4 : Cond.code Lib.MathLoose.min_long.x Lib.MathLoose.min_long.code 4 (some .long) ∈ big) (hf : 1 ≤ R.frames) (hl2 : (st.map fun w => w.category).sum + 15 ≤ R.locals) (hc : cells ≤ R.cells) (hs : slots ≤ R.slots) (kk : J v M R K t0 cells slots h top (pc + 3) ls (.long (if y < x then y else x) :: st)) : J v M R K t0 cells slots h top pc ls (.long y :: .long x :: st) := by
  intro p l e s m args below meth c F H locs A hz hH hS hl
  exact va_mmin_long F.1 F.2.1 (F.2.2.1.trans hl.1.symm) F.2.2.2.1 (F.ht _ w1) (F.ht _ w2) (F.ht _ w3) (F.ht _ w4) hf hl2 hc hs d (kk p l e s m args below meth c F H locs A hz hH hS hl)
theorem r_mmaxL {idx : Nat} {x y : Int64} (d : decode M.2.1 pc = .ok (.invokestatic idx, 3)) (w1 : Cond.methodLink M.1.cls idx Lib.MathLoose.max_long.x ∈ big) (w2 : Cond.static Lib.MathLoose.max_long.x ∈ big) (w3 : Cond.initialized "java/lang/Math" ∈ big) (w4 : Cond.code Lib.MathLoose.max_long.x Lib.MathLoose.max_long.code 4 (some .long) ∈ big) (hf : 1 ≤ R.frames) (hl2 : (st.map fun w => w.category).sum + 15 ≤ R.locals) (hc : cells ≤ R.cells) (hs : slots ≤ R.slots) (kk : J v M R K t0 cells slots h top (pc + 3) ls (.long (if y < x then x else y) :: st)) : J v M R K t0 cells slots h top pc ls (.long y :: .long x :: st) := by
  intro p l e s m args below meth c F H locs A hz hH hS hl
  exact va_mmax_long F.1 F.2.1 (F.2.2.1.trans hl.1.symm) F.2.2.2.1 (F.ht _ w1) (F.ht _ w2) (F.ht _ w3) (F.ht _ w4) hf hl2 hc hs d (kk p l e s m args below meth c F H locs A hz hH hS hl)
theorem r_mabsL {idx : Nat} {x : Int64} (d : decode M.2.1 pc = .ok (.invokestatic idx, 3)) (w1 : Cond.methodLink M.1.cls idx Lib.MathLoose.abs_long.x ∈ big) (w2 : Cond.static Lib.MathLoose.abs_long.x ∈ big) (w3 : Cond.initialized "java/lang/Math" ∈ big) (w4 : Cond.code Lib.MathLoose.abs_long.x Lib.MathLoose.abs_long.code 2 (some .long) ∈ big) (hf : 1 ≤ R.frames) (hl2 : (st.map fun w => w.category).sum + 13 ≤ R.locals) (hc : cells ≤ R.cells) (hs : slots ≤ R.slots) (kk : J v M R K t0 cells slots h top (pc + 3) ls (.long (if 0 < x then x else -x) :: st)) : J v M R K t0 cells slots h top pc ls (.long x :: st) := by
  intro p l e s m args below meth c F H locs A hz hH hS hl
  exact va_mabs_long F.1 F.2.1 (F.2.2.1.trans hl.1.symm) F.2.2.2.1 (F.ht _ w1) (F.ht _ w2) (F.ht _ w3) (F.ht _ w4) hf hl2 hc hs d (kk p l e s m args below meth c F H locs A hz hH hS hl)
end
theorem lcL_X10_307 : Cond.constantLong RX10 307 (lI (31)) ∈ big := by rw [show lI (31) = (31) by decide]; exact lc_X10_307
theorem lcL_X0_67 : Cond.constantLong RX0 67 (lI (-1000000)) ∈ big := by rw [show lI (-1000000) = (-1000000) by decide]; exact lc_X0_67
theorem lcL_X0_69 : Cond.constantLong RX0 69 (lI (1000000)) ∈ big := by rw [show lI (1000000) = (1000000) by decide]; exact lc_X0_69
theorem lcL_X8_46 : Cond.constantLong RX8 46 (lI (1103515245)) ∈ big := by rw [show lI (1103515245) = (1103515245) by decide]; exact lc_X8_46
theorem lcL_X8_48 : Cond.constantLong RX8 48 (lI (12345)) ∈ big := by rw [show lI (12345) = (12345) by decide]; exact lc_X8_48
theorem lcL_X8_50 : Cond.constantLong RX8 50 (lI (2147483648)) ∈ big := by rw [show lI (2147483648) = (2147483648) by decide]; exact lc_X8_50
theorem lcL_X8_52 : Cond.constantLong RX8 52 (lI (65536)) ∈ big := by rw [show lI (65536) = (65536) by decide]; exact lc_X8_52
theorem lcL_X11_266 : Cond.constantLong RX11 266 (lI (4)) ∈ big := by rw [show lI (4) = (4) by decide]; exact lc_X11_266
theorem lcL_X11_206 : Cond.constantLong RX11 206 (lI (1000000)) ∈ big := by rw [show lI (1000000) = (1000000) by decide]; exact lc_X11_206
theorem lcL_X11_212 : Cond.constantLong RX11 212 (lI (99)) ∈ big := by rw [show lI (99) = (99) by decide]; exact lc_X11_212
theorem lcL_X11_326 : Cond.constantLong RX11 326 (lI (100)) ∈ big := by rw [show lI (100) = (100) by decide]; exact lc_X11_326
theorem lcL_X11_328 : Cond.constantLong RX11 328 (lI (1000)) ∈ big := by rw [show lI (1000) = (1000) by decide]; exact lc_X11_328
theorem lcL_X11_330 : Cond.constantLong RX11 330 (lI (3)) ∈ big := by rw [show lI (3) = (3) by decide]; exact lc_X11_330
theorem lcL_X11_332 : Cond.constantLong RX11 332 (lI (1103515245)) ∈ big := by rw [show lI (1103515245) = (1103515245) by decide]; exact lc_X11_332
theorem lcL_X11_334 : Cond.constantLong RX11 334 (lI (12345)) ∈ big := by rw [show lI (12345) = (12345) by decide]; exact lc_X11_334
theorem lcL_X11_336 : Cond.constantLong RX11 336 (lI (2147483648)) ∈ big := by rw [show lI (2147483648) = (2147483648) by decide]; exact lc_X11_336
theorem lcL_X11_338 : Cond.constantLong RX11 338 (lI (65536)) ∈ big := by rw [show lI (65536) = (65536) by decide]; exact lc_X11_338
theorem lcL_X11_340 : Cond.constantLong RX11 340 (lI (9)) ∈ big := by rw [show lI (9) = (9) by decide]; exact lc_X11_340
theorem lcL_X11_345 : Cond.constantLong RX11 345 (lI (31)) ∈ big := by rw [show lI (31) = (31) by decide]; exact lc_X11_345
/-- Arrays.fill -/
def filF {α : Type} (f : Nat → α) (n : Nat) (x : α) : Nat → α := fun k => if k < n then x else f k
theorem filF_0 {α : Type} (f : Nat → α) (x : α) : filF f 0 x = f := by
  funext k
  unfold filF
  rw [if_neg (by omega)]
theorem filF_s (f : Nat → Int32) (n : Nat) (x : Int32) : upd (filF f n x) n x = filF f (n + 1) x := by
  funext k
  unfold upd filF
  by_cases h1 : k = n
  · rw [if_pos h1, if_pos (by omega)]
  · rw [if_neg h1]
    by_cases h2 : k < n
    · rw [if_pos h2, if_pos (by omega)]
    · rw [if_neg h2, if_neg (by omega)]
theorem filF_sL (f : Nat → Int64) (n : Nat) (x : Int64) : vp_updL (filF f n x) n x = filF f (n + 1) x := by
  funext k
  unfold vp_updL filF
  by_cases h1 : k = n
  · rw [if_pos h1, if_pos (by omega)]
  · rw [if_neg h1]
    by_cases h2 : k < n
    · rw [if_pos h2, if_pos (by omega)]
    · rw [if_neg h2, if_neg (by omega)]
theorem hp_get {h : Hp} {a : Nat} {e : va_E} : hp h a e a = some e := hp_eq h a e
theorem c_fillI {v : Ev} {h : Hp} {top a n : Nat} {f : Nat → Int32} {x : Int32} (ha : h a = some (aI v n f)) (hn : n ≤ 65536) : Cal v mJ7_fill_53178 1 0 0 [.ref a, .int x] h top (pV (hp h a (aI v n (filF f n x))) top) noX := by
  refine Cal.ofJ (by decide +kernel) rfl (Nat.le_of_ble_eq_true rfl) fun hz0 => ?_
  refine r_ls [some (.ref a), some (.int x), none, none] rfl ?_
  refine r_iconst (pc := 0) (w := nI 0) (tJ7_fill_53178.at 0 rfl) (by decide) ?_
  refine r_istore_n (pc := 1) (i := 2) (tJ7_fill_53178.at 1 rfl) rfl (by decide) ?_
  refine r_aload_n (pc := 2) (i := 0) (tJ7_fill_53178.at 2 rfl) rfl rfl ?_
  refine r_alenI (pc := 3) (tJ7_fill_53178.at 3 rfl) (ha) ?_
  refine r_istore_n (pc := 4) (i := 3) (tJ7_fill_53178.at 4 rfl) rfl (by decide) ?_
  refine r_eq (h2 := hp h a (aI v n (filF f 0 x))) (by rw [filF_0, hp_id ha]) rfl ?_
  refine down (n := n) (P := fun u => J v mJ7_fill_53178 (rmOf 1 0 0) (KM v (pV (hp h a (aI v n (filF f n x))) top) noX 0 0) top 0 0 (hp h a (aI v n (filF f u x))) top 5 [some (.ref a), some (.int x), some (.int (nI u)), some (.int (nI n))] []) ?_ ?_ 0 (by omega)
  · refine r_iload_n (pc := 5) (i := 2) (tJ7_fill_53178.at 5 rfl) rfl rfl ?_
    refine r_iload_n (pc := 6) (i := 3) (tJ7_fill_53178.at 6 rfl) rfl rfl ?_
    refine r_icmp_geN (pc := 7) 20 (tJ7_fill_53178.at 7 rfl) (by decide) (by omega) (by omega) (fun _ => ?_) (fun c => by omega)
    refine r_vret (pc := 20) (tJ7_fill_53178.at 14 rfl) rfl (Nat.le_of_ble_eq_true rfl) (Nat.le_of_ble_eq_true rfl) ?_
    exact ⟨rfl, rfl, rfl⟩
  · intro u hu ih
    refine r_iload_n (pc := 5) (i := 2) (tJ7_fill_53178.at 5 rfl) rfl rfl ?_
    refine r_iload_n (pc := 6) (i := 3) (tJ7_fill_53178.at 6 rfl) rfl rfl ?_
    refine r_icmp_geN (pc := 7) 20 (tJ7_fill_53178.at 7 rfl) (by decide) (by omega) (by omega) (fun c => by omega) (fun _ => ?_)
    refine r_aload_n (pc := 10) (i := 0) (tJ7_fill_53178.at 8 rfl) rfl rfl ?_
    refine r_iload_n (pc := 11) (i := 2) (tJ7_fill_53178.at 9 rfl) rfl rfl ?_
    refine r_iload_n (pc := 12) (i := 1) (tJ7_fill_53178.at 10 rfl) rfl rfl ?_
    refine r_iast (pc := 13) (tJ7_fill_53178.at 11 rfl) hp_get u rfl hu (by omega) ?_
    rw [hp_hp, filF_s]
    first | refine r_iincN (pc := 14) (tJ7_fill_53178.at 12 rfl) rfl (by decide) ?_ | refine r_iinc (pc := 14) (tJ7_fill_53178.at 12 rfl) rfl rfl (by decide) ?_
    refine r_goto (pc := 17) 5 (tJ7_fill_53178.at 13 rfl) (by decide) ?_
    exact ih
theorem c_fillJ {v : Ev} {h : Hp} {top a n : Nat} {f : Nat → Int64} {x : Int64} (ha : h a = some (aJ v n f)) (hn : n ≤ 65536) : Cal v mJ7_fill_d0a16 1 0 0 [.ref a, .long x] h top (pV (hp h a (aJ v n (filF f n x))) top) noX := by
  refine Cal.ofJ (by decide +kernel) rfl (Nat.le_of_ble_eq_true rfl) fun hz0 => ?_
  refine r_ls [some (.ref a), some (.long x), none, none, none] rfl ?_
  refine r_iconst (pc := 0) (w := nI 0) (tJ7_fill_d0a16.at 0 rfl) (by decide) ?_
  refine r_istore_n (pc := 1) (i := 3) (tJ7_fill_d0a16.at 1 rfl) rfl (by decide) ?_
  refine r_aload_n (pc := 2) (i := 0) (tJ7_fill_d0a16.at 2 rfl) rfl rfl ?_
  refine r_alenJ (pc := 3) (tJ7_fill_d0a16.at 3 rfl) (ha) ?_
  refine r_eq (h2 := hp h a (aJ v n (filF f 0 x))) (by rw [filF_0, hp_id ha]) rfl ?_
  refine r_istore (pc := 4) (i := 4) (tJ7_fill_d0a16.at 4 rfl) (by decide) ?_
  refine down (n := n) (P := fun u => J v mJ7_fill_d0a16 (rmOf 1 0 0) (KM v (pV (hp h a (aJ v n (filF f n x))) top) noX 0 0) top 0 0 (hp h a (aJ v n (filF f u x))) top 6 [some (.ref a), some (.long x), none, some (.int (nI u)), some (.int (nI n))] []) ?_ ?_ 0 (by omega)
  · refine r_iload_n (pc := 6) (i := 3) (tJ7_fill_d0a16.at 5 rfl) rfl rfl ?_
    refine r_iload (pc := 7) (i := 4) (tJ7_fill_d0a16.at 6 rfl) rfl ?_
    refine r_icmp_geN (pc := 9) 22 (tJ7_fill_d0a16.at 7 rfl) (by decide) (by omega) (by omega) (fun _ => ?_) (fun c => by omega)
    refine r_vret (pc := 22) (tJ7_fill_d0a16.at 14 rfl) rfl (Nat.le_of_ble_eq_true rfl) (Nat.le_of_ble_eq_true rfl) ?_
    exact ⟨rfl, rfl, rfl⟩
  · intro u hu ih
    refine r_iload_n (pc := 6) (i := 3) (tJ7_fill_d0a16.at 5 rfl) rfl rfl ?_
    refine r_iload (pc := 7) (i := 4) (tJ7_fill_d0a16.at 6 rfl) rfl ?_
    refine r_icmp_geN (pc := 9) 22 (tJ7_fill_d0a16.at 7 rfl) (by decide) (by omega) (by omega) (fun c => by omega) (fun _ => ?_)
    refine r_aload_n (pc := 12) (i := 0) (tJ7_fill_d0a16.at 8 rfl) rfl rfl ?_
    refine r_iload_n (pc := 13) (i := 3) (tJ7_fill_d0a16.at 9 rfl) rfl rfl ?_
    refine r_lload_n (pc := 14) (i := 1) (tJ7_fill_d0a16.at 10 rfl) rfl rfl ?_
    refine r_last (pc := 15) (tJ7_fill_d0a16.at 11 rfl) hp_get u rfl hu (by omega) ?_
    rw [hp_hp, filF_sL]
    first | refine r_iincN (pc := 16) (tJ7_fill_d0a16.at 12 rfl) rfl (by decide) ?_ | refine r_iinc (pc := 16) (tJ7_fill_d0a16.at 12 rfl) rfl rfl (by decide) ?_
    refine r_goto (pc := 19) 6 (tJ7_fill_d0a16.at 13 rfl) (by decide) ?_
    exact ih
/-- the greatest common divisor -/
theorem abs_nat {a : Int} (h1 : -9223372036854775807 ≤ a) (h2 : a ≤ 9223372036854775807) : (if (0 : Int64) < lI a then lI a else -lI a) = lI (a.natAbs : Nat) := by
  have e0 : (0 : Int64) = lI 0 := by decide
  rw [e0]
  by_cases h : (0 : Int) < a
  · rw [if_pos ((lI_lt ⟨by omega, by omega⟩ ⟨by omega, by omega⟩).mpr h)]
    congr 1
    omega
  · rw [if_neg (fun q => h ((lI_lt ⟨by omega, by omega⟩ ⟨by omega, by omega⟩).mp q)), lI_neg]
    congr 1
    omega
theorem c_gcd {v : Ev} {h : Hp} {top : Nat} {a b : Int} (ha : -9223372036854775807 ≤ a ∧ a ≤ 9223372036854775807) (hb : -9223372036854775807 ≤ b ∧ b ≤ 9223372036854775807) : Cal v mX2_commonDivisor 2 0 0 [.long (lI a), .long (lI b)] h top (pR (.long (lI (Int.gcd a b : Nat))) h top) noX := by
  refine Cal.ofJ (by decide +kernel) rfl (Nat.le_of_ble_eq_true rfl) fun hz0 => ?_
  refine r_ls [some (.long (lI a)), none, some (.long (lI b)), none, none, none, none, none, none, none, none] rfl ?_
  refine r_lload_n (pc := 0) (i := 0) (tX2_commonDivisor.at 0 rfl) rfl rfl ?_
  refine r_mabsL (pc := 1) (tX2_commonDivisor.at 1 rfl) ml_X2_24 mw_absL_s mw_math mw_absL_c (Nat.le_of_ble_eq_true rfl) (Nat.le_of_ble_eq_true rfl) (Nat.le_of_ble_eq_true rfl) (Nat.le_of_ble_eq_true rfl) ?_
  rw [abs_nat ha.1 ha.2]
  refine r_lstore (pc := 4) (i := 4) (tX2_commonDivisor.at 2 rfl) (by decide) ?_
  refine r_lload_n (pc := 6) (i := 2) (tX2_commonDivisor.at 3 rfl) rfl rfl ?_
  refine r_mabsL (pc := 7) (tX2_commonDivisor.at 4 rfl) ml_X2_24 mw_absL_s mw_math mw_absL_c (Nat.le_of_ble_eq_true rfl) (Nat.le_of_ble_eq_true rfl) (Nat.le_of_ble_eq_true rfl) (Nat.le_of_ble_eq_true rfl) ?_
  rw [abs_nat hb.1 hb.2]
  refine r_lstore (pc := 10) (i := 6) (tX2_commonDivisor.at 5 rfl) (by decide) ?_
  refine r_iconst (pc := 12) (w := nI 0) (tX2_commonDivisor.at 6 rfl) (by decide) ?_
  refine r_istore (pc := 13) (i := 8) (tX2_commonDivisor.at 7 rfl) (by decide) ?_
  have key : ∀ (k r x y : Nat), y < 2 ^ k → k ≤ 63 → r + 2 * k + 1 ≤ 1000 → x < 9223372036854775808 → y < 9223372036854775808 → Nat.gcd x y = Int.gcd a b → J v mX2_commonDivisor (rmOf 2 0 0) (KM v (pR (.long (lI (Int.gcd a b : Nat))) h top) noX 0 0) top 0 0 h top 15 [some (.long (lI a)), none, some (.long (lI b)), none, some (.long (lI x)), none, some (.long (lI y)), none, some (.int (nI r)), none, none] [] := by
    intro k
    have done : ∀ (r x : Nat), r ≤ 1000 → x < 9223372036854775808 → x = Int.gcd a b → J v mX2_commonDivisor (rmOf 2 0 0) (KM v (pR (.long (lI (Int.gcd a b : Nat))) h top) noX 0 0) top 0 0 h top 15 [some (.long (lI a)), none, some (.long (lI b)), none, some (.long (lI x)), none, some (.long (lI (0 : Nat))), none, some (.int (nI r)), none, none] [] := by
      intro r x hr hx e
      refine r_iload (pc := 15) (i := 8) (tX2_commonDivisor.at 8 rfl) rfl ?_
      refine r_sipush (pc := 17) (w := nI 1000) (tX2_commonDivisor.at 9 rfl) (by decide) ?_
      refine r_icmp_geN (pc := 20) 51 (tX2_commonDivisor.at 10 rfl) (by decide) (by omega) (by omega) (fun c => ?_) (fun c => ?_)
      · refine r_lload (pc := 51) (i := 4) (tX2_commonDivisor.at 25 rfl) rfl ?_
        refine r_lret (pc := 53) (tX2_commonDivisor.at 26 rfl) rfl (Nat.le_of_ble_eq_true rfl) (Nat.le_of_ble_eq_true rfl) ?_
        rw [← e]
        exact ⟨rfl, rfl, rfl⟩
      · refine r_lload (pc := 23) (i := 6) (tX2_commonDivisor.at 11 rfl) rfl ?_
        refine r_lconst (pc := 25) (w := lI 0) (tX2_commonDivisor.at 12 rfl) (by decide) ?_
        refine r_lc_le (pc := 26) 51 (tX2_commonDivisor.at 13 rfl) (tX2_commonDivisor.at 14 rfl) (by decide) (⟨by omega, by omega⟩) (⟨by omega, by omega⟩) (fun _ => ?_) (fun c => by omega)
        refine r_lload (pc := 51) (i := 4) (tX2_commonDivisor.at 25 rfl) rfl ?_
        refine r_lret (pc := 53) (tX2_commonDivisor.at 26 rfl) rfl (Nat.le_of_ble_eq_true rfl) (Nat.le_of_ble_eq_true rfl) ?_
        rw [← e]
        exact ⟨rfl, rfl, rfl⟩
    have one : ∀ (r x y : Nat), r < 1000 → x < 9223372036854775808 → y < 9223372036854775808 → 0 < y → J v mX2_commonDivisor (rmOf 2 0 0) (KM v (pR (.long (lI (Int.gcd a b : Nat))) h top) noX 0 0) top 0 0 h top 15 [some (.long (lI a)), none, some (.long (lI b)), none, some (.long (lI y)), none, some (.long (lI ((x % y : Nat)))), none, some (.int (nI (r + 1))), none, none] [] → J v mX2_commonDivisor (rmOf 2 0 0) (KM v (pR (.long (lI (Int.gcd a b : Nat))) h top) noX 0 0) top 0 0 h top 15 [some (.long (lI a)), none, some (.long (lI b)), none, some (.long (lI x)), none, some (.long (lI y)), none, some (.int (nI r)), none, none] [] := by
      intro r x y hr hx hy h0 kk
      refine r_iload (pc := 15) (i := 8) (tX2_commonDivisor.at 8 rfl) rfl ?_
      refine r_sipush (pc := 17) (w := nI 1000) (tX2_commonDivisor.at 9 rfl) (by decide) ?_
      refine r_icmp_geN (pc := 20) 51 (tX2_commonDivisor.at 10 rfl) (by decide) (by omega) (by omega) (fun c => by omega) (fun _ => ?_)
      refine r_lload (pc := 23) (i := 6) (tX2_commonDivisor.at 11 rfl) rfl ?_
      refine r_lconst (pc := 25) (w := lI 0) (tX2_commonDivisor.at 12 rfl) (by decide) ?_
      refine r_lc_le (pc := 26) 51 (tX2_commonDivisor.at 13 rfl) (tX2_commonDivisor.at 14 rfl) (by decide) (⟨by omega, by omega⟩) (⟨by omega, by omega⟩) (fun c => by omega) (fun _ => ?_)
      refine r_lload (pc := 30) (i := 4) (tX2_commonDivisor.at 15 rfl) rfl ?_
      refine r_lload (pc := 32) (i := 6) (tX2_commonDivisor.at 16 rfl) rfl ?_
      refine r_lremL (pc := 34) (tX2_commonDivisor.at 17 rfl) (inL_nat hx) (inL_nat hy) (by omega) ?_
      rw [show (x : Int).tmod (y : Int) = ((x % y : Nat) : Int) from (Int.ofNat_tmod x y).symm]
      refine r_lstore (pc := 35) (i := 9) (tX2_commonDivisor.at 18 rfl) (by decide) ?_
      refine r_lload (pc := 37) (i := 6) (tX2_commonDivisor.at 19 rfl) rfl ?_
      refine r_lstore (pc := 39) (i := 4) (tX2_commonDivisor.at 20 rfl) (by decide) ?_
      refine r_lload (pc := 41) (i := 9) (tX2_commonDivisor.at 21 rfl) rfl ?_
      refine r_lstore (pc := 43) (i := 6) (tX2_commonDivisor.at 22 rfl) (by decide) ?_
      first | refine r_iincN (pc := 45) (tX2_commonDivisor.at 23 rfl) rfl (by decide) ?_ | refine r_iinc (pc := 45) (tX2_commonDivisor.at 23 rfl) rfl rfl (by decide) ?_
      refine r_goto (pc := 48) 15 (tX2_commonDivisor.at 24 rfl) (by decide) ?_
      exact r_sub _ (fun i w hw => by
        match i, hw with
        | 0, hw => exact hw
        | 1, hw => exact hw
        | 2, hw => exact hw
        | 3, hw => exact hw
        | 4, hw => exact hw
        | 5, hw => exact hw
        | 6, hw => exact hw
        | 7, hw => exact hw
        | 8, hw => exact hw
        | 9, hw => cases hw
        | 10, hw => cases hw) kk
    induction k with
    | zero =>
      intro r x y hy _ hr hx _ e
      have h0 : y = 0 := by simpa using hy
      subst h0
      exact done r x (by omega) hx (by simpa using e)
    | succ k ih =>
      intro r x y hy hk hr hx hy2 e
      by_cases h0 : y = 0
      · subst h0
        exact done r x (by omega) hx (by simpa using e)
      have e1 : Nat.gcd y (x % y) = Int.gcd a b := by rw [← e, Nat.gcd_comm x y, Nat.gcd_rec y x, Nat.gcd_comm]
      have l1 : x % y < y := Nat.mod_lt _ (by omega)
      refine one r x y (by omega) hx hy2 (by omega) ?_
      by_cases h1 : x % y = 0
      · rw [h1] at e1 ⊢
        exact done (r + 1) y (by omega) hy2 (by simpa using e1)
      refine one (r + 1) y (x % y) (by omega) hy2 (by omega) (by omega) ?_
      have l2 : y % (x % y) < x % y := Nat.mod_lt _ (by omega)
      have l3 : y % (x % y) + (x % y) ≤ y := by
        have := Nat.mod_add_div y (x % y)
        have h3 : 1 ≤ y / (x % y) := Nat.div_pos (by omega) (by omega)
        have h4 : x % y * 1 ≤ x % y * (y / (x % y)) := Nat.mul_le_mul_left _ h3
        omega
      exact ih (r + 1 + 1) (x % y) (y % (x % y)) (by rw [Nat.pow_succ] at hy; omega) (by omega) (by omega) (by omega) (by omega) (by rw [← e1, Nat.gcd_comm y (x % y), Nat.gcd_rec (x % y) y, Nat.gcd_comm])
  exact key 63 0 a.natAbs b.natAbs (by omega) (by omega) (by omega) (by omega) (by omega) rfl
/-- Fraction -/
def frE (a b : Int) : va_E := ob 2 [.long (lI a), .long (lI b)]
def rdA (n d : Int) : Int := n.tdiv (Int.gcd n d)
def rdB (n d : Int) : Int := d.tdiv (Int.gcd n d)
theorem c_frInit {v : Ev} {h : Hp} {top q : Nat} {fs : List Value} (hq : h q = some (ob 2 fs)) (hf : fs.length = 2) : Cal v mX2_init 1 0 0 [.ref q] h top (pV (hp h q (frE 0 1)) top) noX := by
  obtain ⟨x, y, rfl⟩ : ∃ x y, fs = [x, y] := by
    match fs, hf with
    | [x, y], _ => exact ⟨x, y, rfl⟩
  refine Cal.ofJ (by decide +kernel) rfl (Nat.le_of_ble_eq_true rfl) fun hz0 => ?_
  refine r_ls [some (.ref q)] rfl ?_
  refine r_aload_n (pc := 0) (i := 0) (tX2_init.at 0 rfl) rfl rfl ?_
  refine r_objInit (pc := 1) (tX2_init.at 1 rfl) ml_X2_1 oi_inst oi_code (Nat.le_of_ble_eq_true rfl) (Nat.le_of_ble_eq_true rfl) ?_
  refine r_aload_n (pc := 4) (i := 0) (tX2_init.at 2 rfl) rfl rfl ?_
  refine r_lconst (pc := 5) (w := lI 0) (tX2_init.at 3 rfl) (by decide) ?_
  refine r_put (pc := 6) (tX2_init.at 4 rfl) pf_X2_7 (hq) (Nat.le_of_ble_eq_true rfl) (rfl) (rfl) ?_
  refine r_aload_n (pc := 9) (i := 0) (tX2_init.at 5 rfl) rfl rfl ?_
  refine r_lconst (pc := 10) (w := lI 1) (tX2_init.at 6 rfl) (by decide) ?_
  refine r_put (pc := 11) (tX2_init.at 7 rfl) pf_X2_13 (hp_get) (Nat.le_of_ble_eq_true rfl) (rfl) (rfl) ?_
  rw [hp_hp]
  refine r_vret (pc := 14) (tX2_init.at 8 rfl) rfl (Nat.le_of_ble_eq_true rfl) (Nat.le_of_ble_eq_true rfl) ?_
  exact ⟨rfl, rfl, rfl⟩
theorem c_frPut {v : Ev} {h : Hp} {top q : Nat} {a b n d : Int} (hq : h q = some (frE a b)) (hn : -9223372036854775807 ≤ n ∧ n ≤ 9223372036854775807) (hd : 0 < d ∧ d ≤ 9223372036854775807) : Cal v mX2_put 3 0 0 [.ref q, .long (lI n), .long (lI d)] h top (pV (hp h q (frE (rdA n d) (rdB n d))) top) noX := by
  refine Cal.ofJ (by decide +kernel) rfl (Nat.le_of_ble_eq_true rfl) fun hz0 => ?_
  refine r_ls [some (.ref q), some (.long (lI n)), none, some (.long (lI d)), none, none, none] rfl ?_
  have hg : 0 < Int.gcd n d := Int.gcd_pos_of_ne_zero_right n (by omega)
  have hg2 : Int.gcd n d ≤ 9223372036854775807 := by
    have h1 : Nat.gcd n.natAbs d.natAbs ≤ d.natAbs := Nat.gcd_le_right _ (by omega)
    have h2 : Int.gcd n d = Nat.gcd n.natAbs d.natAbs := rfl
    omega
  refine r_lload_n (pc := 0) (i := 1) (tX2_put.at 0 rfl) rfl rfl ?_
  refine r_lload_n (pc := 1) (i := 3) (tX2_put.at 1 rfl) rfl rfl ?_
  refine r_callS (M' := mX2_commonDivisor) (pc := 2) (tX2_put.at 2 rfl) ml_X2_16 rfl mw_X2_commonDivisor ⟨by decide, by decide⟩ (c_gcd hn (b := d) (by omega)) rfl rfl (Nat.le_of_ble_eq_true rfl) (Nat.le_of_ble_eq_true rfl) (Nat.le_of_ble_eq_true rfl) ?_
  rintro _ _ _ ⟨rfl, rfl, rfl⟩
  refine r_lstore (pc := 5) (i := 5) (tX2_put.at 3 rfl) (by decide) ?_
  refine r_lload_n (pc := 7) (i := 3) (tX2_put.at 4 rfl) rfl rfl ?_
  refine r_lconst (pc := 8) (w := lI 0) (tX2_put.at 5 rfl) (by decide) ?_
  refine r_lc_le (pc := 9) 39 (tX2_put.at 6 rfl) (tX2_put.at 7 rfl) (by decide) (⟨by omega, by omega⟩) (⟨by omega, by omega⟩) (fun c => by omega) (fun _ => ?_)
  refine r_lload (pc := 13) (i := 5) (tX2_put.at 8 rfl) rfl ?_
  refine r_lconst (pc := 15) (w := lI 0) (tX2_put.at 9 rfl) (by decide) ?_
  refine r_lc_le (pc := 16) 39 (tX2_put.at 10 rfl) (tX2_put.at 11 rfl) (by decide) (⟨by omega, by omega⟩) (⟨by omega, by omega⟩) (fun c => by omega) (fun _ => ?_)
  refine r_aload_n (pc := 20) (i := 0) (tX2_put.at 12 rfl) rfl rfl ?_
  refine r_lload_n (pc := 21) (i := 1) (tX2_put.at 13 rfl) rfl rfl ?_
  refine r_lload (pc := 22) (i := 5) (tX2_put.at 14 rfl) rfl ?_
  refine r_ldivL (pc := 24) (tX2_put.at 15 rfl) (⟨by omega, by omega⟩) (⟨by omega, by omega⟩) (by omega) ?_
  refine r_put (pc := 25) (tX2_put.at 16 rfl) pf_X2_7 (hq) (Nat.le_of_ble_eq_true rfl) (rfl) (rfl) ?_
  refine r_aload_n (pc := 28) (i := 0) (tX2_put.at 17 rfl) rfl rfl ?_
  refine r_lload_n (pc := 29) (i := 3) (tX2_put.at 18 rfl) rfl rfl ?_
  refine r_lload (pc := 30) (i := 5) (tX2_put.at 19 rfl) rfl ?_
  refine r_ldivL (pc := 32) (tX2_put.at 20 rfl) (⟨by omega, by omega⟩) (⟨by omega, by omega⟩) (by omega) ?_
  refine r_put (pc := 33) (tX2_put.at 21 rfl) pf_X2_13 (hp_get) (Nat.le_of_ble_eq_true rfl) (rfl) (rfl) ?_
  refine r_goto (pc := 36) 49 (tX2_put.at 22 rfl) (by decide) ?_
  rw [hp_hp]
  refine r_vret (pc := 49) (tX2_put.at 29 rfl) rfl (Nat.le_of_ble_eq_true rfl) (Nat.le_of_ble_eq_true rfl) ?_
  exact ⟨rfl, rfl, rfl⟩
theorem c_frPart {v : Ev} {h : Hp} {top q : Nat} {a b : Int} (hq : h q = some (frE a b)) {x : Nat} (hx : x < 2147483648) : Cal v mX2_part 1 0 0 [.ref q, .int (nI x)] h top (pR (.long (lI (if x = 0 then a else b))) h top) noX := by
  refine Cal.ofJ (by decide +kernel) rfl (Nat.le_of_ble_eq_true rfl) fun hz0 => ?_
  refine r_ls [some (.ref q), some (.int (nI x))] rfl ?_
  refine r_iload_n (pc := 0) (i := 1) (tX2_part.at 0 rfl) rfl rfl ?_
  refine r_if_eqN (pc := 1) 11 (tX2_part.at 1 rfl) (by decide) (by omega) (fun c => ?_) (fun c => ?_)
  · rw [if_pos c]
    refine r_aload_n (pc := 11) (i := 0) (tX2_part.at 5 rfl) rfl rfl ?_
    refine r_get (pc := 12) (tX2_part.at 6 rfl) gf_X2_7 (hq) rfl ?_
    refine r_lret (pc := 15) (tX2_part.at 7 rfl) rfl (Nat.le_of_ble_eq_true rfl) (Nat.le_of_ble_eq_true rfl) ?_
    exact ⟨rfl, rfl, rfl⟩
  · rw [if_neg c]
    refine r_aload_n (pc := 4) (i := 0) (tX2_part.at 2 rfl) rfl rfl ?_
    refine r_get (pc := 5) (tX2_part.at 3 rfl) gf_X2_13 (hq) rfl ?_
    refine r_goto (pc := 8) 15 (tX2_part.at 4 rfl) (by decide) ?_
    refine r_lret (pc := 15) (tX2_part.at 7 rfl) rfl (Nat.le_of_ble_eq_true rfl) (Nat.le_of_ble_eq_true rfl) ?_
    exact ⟨rfl, rfl, rfl⟩
theorem c_frAdd {v : Ev} {h : Hp} {top q r : Nat} {a b c d : Int} (hq : h q = some (frE a b)) (hr : h r = some (frE c d)) (hn : -9223372036854775807 ≤ a * d + c * b ∧ a * d + c * b ≤ 9223372036854775807) (hd : 0 < b * d ∧ b * d ≤ 9223372036854775807) : Cal v mX2_add 4 0 0 [.ref q, .ref r] h top (pV (hp h q (frE (rdA (a * d + c * b) (b * d)) (rdB (a * d + c * b) (b * d)))) top) noX := by
  refine Cal.ofJ (by decide +kernel) rfl (Nat.le_of_ble_eq_true rfl) fun hz0 => ?_
  refine r_ls [some (.ref q), some (.ref r)] rfl ?_
  refine r_aload_n (pc := 0) (i := 0) (tX2_add.at 0 rfl) rfl rfl ?_
  refine r_aload_n (pc := 1) (i := 0) (tX2_add.at 1 rfl) rfl rfl ?_
  refine r_get (pc := 2) (tX2_add.at 2 rfl) gf_X2_7 (hq) rfl ?_
  refine r_aload_n (pc := 5) (i := 1) (tX2_add.at 3 rfl) rfl rfl ?_
  refine r_get (pc := 6) (tX2_add.at 4 rfl) gf_X2_13 (hr) rfl ?_
  first | refine r_lmulL (pc := 9) (tX2_add.at 5 rfl) ?_ | refine r_lmul (pc := 9) (tX2_add.at 5 rfl) ?_
  refine r_aload_n (pc := 10) (i := 1) (tX2_add.at 6 rfl) rfl rfl ?_
  refine r_get (pc := 11) (tX2_add.at 7 rfl) gf_X2_7 (hr) rfl ?_
  refine r_aload_n (pc := 14) (i := 0) (tX2_add.at 8 rfl) rfl rfl ?_
  refine r_get (pc := 15) (tX2_add.at 9 rfl) gf_X2_13 (hq) rfl ?_
  first | refine r_lmulL (pc := 18) (tX2_add.at 10 rfl) ?_ | refine r_lmul (pc := 18) (tX2_add.at 10 rfl) ?_
  first | refine r_laddL (pc := 19) (tX2_add.at 11 rfl) ?_ | refine r_ladd (pc := 19) (tX2_add.at 11 rfl) ?_
  refine r_aload_n (pc := 20) (i := 0) (tX2_add.at 12 rfl) rfl rfl ?_
  refine r_get (pc := 21) (tX2_add.at 13 rfl) gf_X2_13 (hq) rfl ?_
  refine r_aload_n (pc := 24) (i := 1) (tX2_add.at 14 rfl) rfl rfl ?_
  refine r_get (pc := 25) (tX2_add.at 15 rfl) gf_X2_13 (hr) rfl ?_
  first | refine r_lmulL (pc := 28) (tX2_add.at 16 rfl) ?_ | refine r_lmul (pc := 28) (tX2_add.at 16 rfl) ?_
  refine r_callV (M' := mX2_put) (pc := 29) (tX2_add.at 17 rfl) ml_X2_20 rfl mw_X2_put ⟨by decide, by decide⟩ (hq) rfl rfl (c_frPut hq hn hd) rfl rfl (Nat.le_of_ble_eq_true rfl) (Nat.le_of_ble_eq_true rfl) (Nat.le_of_ble_eq_true rfl) ?_
  rintro _ _ _ ⟨rfl, rfl, rfl⟩
  refine r_vret (pc := 32) (tX2_add.at 18 rfl) rfl (Nat.le_of_ble_eq_true rfl) (Nat.le_of_ble_eq_true rfl) ?_
  exact ⟨rfl, rfl, rfl⟩
theorem c_frDiv {v : Ev} {h : Hp} {top q : Nat} {a b c : Int} (hq : h q = some (frE a b)) (hn : -9223372036854775807 ≤ a ∧ a ≤ 9223372036854775807) (hd : 0 < b * c ∧ b * c ≤ 9223372036854775807) : Cal v mX2_divideBy 4 0 0 [.ref q, .long (lI c)] h top (pV (hp h q (frE (rdA a (b * c)) (rdB a (b * c)))) top) noX := by
  refine Cal.ofJ (by decide +kernel) rfl (Nat.le_of_ble_eq_true rfl) fun hz0 => ?_
  refine r_ls [some (.ref q), some (.long (lI c)), none] rfl ?_
  refine r_aload_n (pc := 0) (i := 0) (tX2_divideBy.at 0 rfl) rfl rfl ?_
  refine r_aload_n (pc := 1) (i := 0) (tX2_divideBy.at 1 rfl) rfl rfl ?_
  refine r_get (pc := 2) (tX2_divideBy.at 2 rfl) gf_X2_7 (hq) rfl ?_
  refine r_aload_n (pc := 5) (i := 0) (tX2_divideBy.at 3 rfl) rfl rfl ?_
  refine r_get (pc := 6) (tX2_divideBy.at 4 rfl) gf_X2_13 (hq) rfl ?_
  refine r_lload_n (pc := 9) (i := 1) (tX2_divideBy.at 5 rfl) rfl rfl ?_
  first | refine r_lmulL (pc := 10) (tX2_divideBy.at 6 rfl) ?_ | refine r_lmul (pc := 10) (tX2_divideBy.at 6 rfl) ?_
  refine r_callV (M' := mX2_put) (pc := 11) (tX2_divideBy.at 7 rfl) ml_X2_20 rfl mw_X2_put ⟨by decide, by decide⟩ (hq) rfl rfl (c_frPut hq hn hd) rfl rfl (Nat.le_of_ble_eq_true rfl) (Nat.le_of_ble_eq_true rfl) (Nat.le_of_ble_eq_true rfl) ?_
  rintro _ _ _ ⟨rfl, rfl, rfl⟩
  refine r_vret (pc := 14) (tX2_divideBy.at 8 rfl) rfl (Nat.le_of_ble_eq_true rfl) (Nat.le_of_ble_eq_true rfl) ?_
  exact ⟨rfl, rfl, rfl⟩
/-- Graph.stepChance: what it puts -/
def chA (W : Nat → Nat) (n x y : Nat) : Int := if degN W x n = 0 then rdA (if x = y then 1 else 0) 1 else rdA (W (x * 6 + y) : Nat) (degN W x n : Nat)
def chB (W : Nat → Nat) (n x y : Nat) : Int := if degN W x n = 0 then rdB (if x = y then 1 else 0) 1 else rdB (W (x * 6 + y) : Nat) (degN W x n : Nat)
theorem c_step {v : Ev} {h : Hp} {top g q : Nat} {G : GT} {a b : Int} (hg : isG v h g G) (hq : h q = some (frE a b)) (hn : G.n ≤ 6) {x y : Nat} (hx : x < 6) (hy : y < 6) (hW : ∀ k, k < 36 → G.W k ≤ 1000000) : Cal v mX3_stepChance 4 0 0 [.ref g, .int (nI x), .int (nI y), .ref q] h top (pV (hp h q (frE (chA G.W G.n x y) (chB G.W G.n x y))) top) noX := by
  have hdg : degN G.W x G.n ≤ G.n * 1000000 := sN_le G.n (fun k hk => hW _ (by omega))
  have hd2 : degN G.W x G.n < 2147483648 := by
    have : G.n * 1000000 ≤ 6 * 1000000 := Nat.mul_le_mul_right _ hn
    omega
  have hw := hW (x * 6 + y) (by omega)
  refine Cal.ofJ (by decide +kernel) rfl (Nat.le_of_ble_eq_true rfl) fun hz0 => ?_
  refine r_ls [some (.ref g), some (.int (nI x)), some (.int (nI y)), some (.ref q), none] rfl ?_
  refine r_aload_n (pc := 0) (i := 0) (tX3_stepChance.at 0 rfl) rfl rfl ?_
  refine r_iload_n (pc := 1) (i := 1) (tX3_stepChance.at 1 rfl) rfl rfl ?_
  refine r_callV (M' := mX3_sumOfWeights) (pc := 2) (tX3_stepChance.at 2 rfl) ml_X3_81 rfl mw_X3_sumOfWeights ⟨by decide, by decide⟩ (hg.1) rfl rfl (c_sow hg hn hx) rfl rfl (Nat.le_of_ble_eq_true rfl) (Nat.le_of_ble_eq_true rfl) (Nat.le_of_ble_eq_true rfl) ?_
  rintro _ _ _ ⟨rfl, rfl, rfl⟩
  refine r_istore (pc := 5) (i := 4) (tX3_stepChance.at 3 rfl) (by decide) ?_
  refine r_iload (pc := 7) (i := 4) (tX3_stepChance.at 4 rfl) rfl ?_
  refine r_if_leN (pc := 9) 29 (tX3_stepChance.at 5 rfl) (by decide) (by omega) (fun c => ?_) (fun c => ?_)
  · have e1 : chA G.W G.n x y = rdA (if x = y then 1 else 0) 1 := by unfold chA; rw [if_pos c]
    have e2 : chB G.W G.n x y = rdB (if x = y then 1 else 0) 1 := by unfold chB; rw [if_pos c]
    rw [e1, e2]
    refine r_aload_n (pc := 29) (i := 3) (tX3_stepChance.at 16 rfl) rfl rfl ?_
    refine r_iload_n (pc := 30) (i := 1) (tX3_stepChance.at 17 rfl) rfl rfl ?_
    refine r_iload_n (pc := 31) (i := 2) (tX3_stepChance.at 18 rfl) rfl rfl ?_
    refine r_icmp_neN (pc := 32) 39 (tX3_stepChance.at 19 rfl) (by decide) (by omega) (by omega) (fun c2 => ?_) (fun c2 => ?_)
    · rw [if_neg c2]
      refine r_lconst (pc := 39) (w := lI 0) (tX3_stepChance.at 22 rfl) (by decide) ?_
      refine r_lconst (pc := 40) (w := lI 1) (tX3_stepChance.at 23 rfl) (by decide) ?_
      refine r_callV (M' := mX2_put) (pc := 41) (tX3_stepChance.at 24 rfl) ml_X3_84 rfl mw_X2_put ⟨by decide, by decide⟩ (hq) rfl rfl (c_frPut (n := 0) (d := 1) hq (by omega) (by omega)) rfl rfl (Nat.le_of_ble_eq_true rfl) (Nat.le_of_ble_eq_true rfl) (Nat.le_of_ble_eq_true rfl) ?_
      rintro _ _ _ ⟨rfl, rfl, rfl⟩
      refine r_vret (pc := 44) (tX3_stepChance.at 25 rfl) rfl (Nat.le_of_ble_eq_true rfl) (Nat.le_of_ble_eq_true rfl) ?_
      exact ⟨rfl, rfl, rfl⟩
    · rw [if_pos c2]
      refine r_lconst (pc := 35) (w := lI 1) (tX3_stepChance.at 20 rfl) (by decide) ?_
      refine r_goto (pc := 36) 40 (tX3_stepChance.at 21 rfl) (by decide) ?_
      refine r_lconst (pc := 40) (w := lI 1) (tX3_stepChance.at 23 rfl) (by decide) ?_
      refine r_callV (M' := mX2_put) (pc := 41) (tX3_stepChance.at 24 rfl) ml_X3_84 rfl mw_X2_put ⟨by decide, by decide⟩ (hq) rfl rfl (c_frPut (n := 1) (d := 1) hq (by omega) (by omega)) rfl rfl (Nat.le_of_ble_eq_true rfl) (Nat.le_of_ble_eq_true rfl) (Nat.le_of_ble_eq_true rfl) ?_
      rintro _ _ _ ⟨rfl, rfl, rfl⟩
      refine r_vret (pc := 44) (tX3_stepChance.at 25 rfl) rfl (Nat.le_of_ble_eq_true rfl) (Nat.le_of_ble_eq_true rfl) ?_
      exact ⟨rfl, rfl, rfl⟩
  · have e1 : chA G.W G.n x y = rdA (G.W (x * 6 + y) : Nat) (degN G.W x G.n : Nat) := by unfold chA; rw [if_neg (by omega)]
    have e2 : chB G.W G.n x y = rdB (G.W (x * 6 + y) : Nat) (degN G.W x G.n : Nat) := by unfold chB; rw [if_neg (by omega)]
    rw [e1, e2]
    refine r_aload_n (pc := 12) (i := 3) (tX3_stepChance.at 6 rfl) rfl rfl ?_
    refine r_aload_n (pc := 13) (i := 0) (tX3_stepChance.at 7 rfl) rfl rfl ?_
    refine r_iload_n (pc := 14) (i := 1) (tX3_stepChance.at 8 rfl) rfl rfl ?_
    refine r_iload_n (pc := 15) (i := 2) (tX3_stepChance.at 9 rfl) rfl rfl ?_
    refine r_callV (M' := mX3_weightBetween) (pc := 16) (tX3_stepChance.at 10 rfl) ml_X3_71 rfl mw_X3_weightBetween ⟨by decide, by decide⟩ (hg.1) rfl rfl (c_wb hg (a := x) (b := y) (by omega)) rfl rfl (Nat.le_of_ble_eq_true rfl) (Nat.le_of_ble_eq_true rfl) (Nat.le_of_ble_eq_true rfl) ?_
    rintro _ _ _ ⟨rfl, rfl, rfl⟩
    first | refine r_i2lN (pc := 19) (tX3_stepChance.at 11 rfl) (by omega) ?_ | refine r_i2l (pc := 19) (tX3_stepChance.at 11 rfl) ?_
    refine r_iload (pc := 20) (i := 4) (tX3_stepChance.at 12 rfl) rfl ?_
    first | refine r_i2lN (pc := 22) (tX3_stepChance.at 13 rfl) (by omega) ?_ | refine r_i2l (pc := 22) (tX3_stepChance.at 13 rfl) ?_
    refine r_callV (M' := mX2_put) (pc := 23) (tX3_stepChance.at 14 rfl) ml_X3_84 rfl mw_X2_put ⟨by decide, by decide⟩ (hq) rfl rfl (c_frPut (n := (G.W (x * 6 + y) : Nat)) (d := (degN G.W x G.n : Nat)) hq (by omega) (by omega)) rfl rfl (Nat.le_of_ble_eq_true rfl) (Nat.le_of_ble_eq_true rfl) (Nat.le_of_ble_eq_true rfl) ?_
    rintro _ _ _ ⟨rfl, rfl, rfl⟩
    refine r_goto (pc := 26) 44 (tX3_stepChance.at 15 rfl) (by decide) ?_
    refine r_vret (pc := 44) (tX3_stepChance.at 25 rfl) rfl (Nat.le_of_ble_eq_true rfl) (Nat.le_of_ble_eq_true rfl) ?_
    exact ⟨rfl, rfl, rfl⟩
end
section
/-! ===== ints told by Int; Graph: edges, clear, copyFrom, init ===== -/
def zI (z : Int) : Int32 := Int32.ofInt z
def inI (z : Int) : Prop := -2147483648 ≤ z ∧ z ≤ 2147483647
theorem zI_nat (k : Nat) : zI (k : Int) = nI k := Int32.ofInt_eq_ofNat
theorem zI_toInt {z : Int} (h : inI z) : (zI z).toInt = z := Int32.toInt_ofInt_of_le (by have := h.1; omega) (by have := h.2; omega)
theorem zI_lt {a b : Int} (ha : inI a) (hb : inI b) : zI a < zI b ↔ a < b := by rw [Int32.lt_iff_toInt_lt, zI_toInt ha, zI_toInt hb]
theorem zI_le {a b : Int} (ha : inI a) (hb : inI b) : zI a ≤ zI b ↔ a ≤ b := by rw [Int32.le_iff_toInt_le, zI_toInt ha, zI_toInt hb]
theorem zI_eq {a b : Int} (ha : inI a) (hb : inI b) : zI a = zI b ↔ a = b := by rw [← Int32.toInt_inj, zI_toInt ha, zI_toInt hb]
theorem zI_add (a b : Int) : zI a + zI b = zI (a + b) := (Int32.ofInt_add a b).symm
theorem zI_sub (a b : Int) : zI a - zI b = zI (a - b) := (Int32.ofInt_sub a b).symm
theorem zI_mul (a b : Int) : zI a * zI b = zI (a * b) := (Int32.ofInt_mul a b).symm
theorem zI_neg (a : Int) : -zI a = zI (-a) := (Int32.ofInt_neg a).symm
theorem zI_toInt64 {z : Int} (h : inI z) : (zI z).toInt64 = lI z := by
  rw [← Int64.ofInt_int32ToInt, zI_toInt h]
  rfl
theorem lI_toInt32Z (z : Int) : (lI z).toInt32 = zI z := Int64.toInt32_ofInt
theorem nI_subZ {a b : Nat} (h : b ≤ a) : nI a - nI b = nI (a - b) := pk_sub h
theorem mminN {a b : Nat} (ha : a < 2147483648) (hb : b < 2147483648) : (if nI b < nI a then nI b else nI a) = nI (min a b) := by
  by_cases q : b < a
  · rw [if_pos ((nI_lt_iff hb ha).mpr q), Nat.min_eq_right (by omega)]
  · rw [if_neg (fun z => q ((nI_lt_iff hb ha).mp z)), Nat.min_eq_left (by omega)]
theorem mmaxN {a b : Nat} (ha : a < 2147483648) (hb : b < 2147483648) : (if nI a < nI b then nI b else nI a) = nI (max a b) := by
  by_cases q : a < b
  · rw [if_pos ((nI_lt_iff ha hb).mpr q), Nat.max_eq_right (by omega)]
  · rw [if_neg (fun z => q ((nI_lt_iff ha hb).mp z)), Nat.max_eq_left (by omega)]
theorem mminZ {a b : Int} (ha : inI a) (hb : inI b) : (if zI b < zI a then zI b else zI a) = zI (min a b) := by
  by_cases q : b < a
  · rw [if_pos ((zI_lt hb ha).mpr q), Int.min_eq_right (by omega)]
  · rw [if_neg (fun z => q ((zI_lt hb ha).mp z)), Int.min_eq_left (by omega)]
theorem mmaxZ {a b : Int} (ha : inI a) (hb : inI b) : (if zI a < zI b then zI b else zI a) = zI (max a b) := by
  by_cases q : a < b
  · rw [if_pos ((zI_lt ha hb).mpr q), Int.max_eq_right (by omega)]
  · rw [if_neg (fun z => q ((zI_lt ha hb).mp z)), Int.max_eq_left (by omega)]
section
variable {v : Ev} {M : Md} {R : Room} {K : List Frame → Array Value → State → State → Prop} {t0 cells slots : Nat} {h : Hp} {top pc : Nat} {ls : List (Option Value)} {st : List Value}
theorem r_mminN {idx : Nat} {a b : Nat} (d : decode M.2.1 pc = .ok (.invokestatic idx, 3)) (w1 : Cond.methodLink M.1.cls idx Lib.Math.min.name ∈ big) (w2 : Cond.static Lib.Math.min.name ∈ big) (w3 : Cond.initialized "java/lang/Math" ∈ big) (w4 : Cond.code Lib.Math.min.name Lib.Math.min.code 2 (some .int) ∈ big) (hf : 1 ≤ R.frames) (hl2 : (st.map fun w => w.category).sum + 13 ≤ R.locals) (hc : cells ≤ R.cells) (hs : slots ≤ R.slots) (ha : a < 2147483648) (hb : b < 2147483648) (kk : J v M R K t0 cells slots h top (pc + 3) ls (.int (nI (min a b)) :: st)) : J v M R K t0 cells slots h top pc ls (.int (nI b) :: .int (nI a) :: st) := r_mmin d w1 w2 w3 w4 hf hl2 hc hs (by rw [mminN ha hb]; exact kk)
theorem r_mminZ {idx : Nat} {a b : Int} (d : decode M.2.1 pc = .ok (.invokestatic idx, 3)) (w1 : Cond.methodLink M.1.cls idx Lib.Math.min.name ∈ big) (w2 : Cond.static Lib.Math.min.name ∈ big) (w3 : Cond.initialized "java/lang/Math" ∈ big) (w4 : Cond.code Lib.Math.min.name Lib.Math.min.code 2 (some .int) ∈ big) (hf : 1 ≤ R.frames) (hl2 : (st.map fun w => w.category).sum + 13 ≤ R.locals) (hc : cells ≤ R.cells) (hs : slots ≤ R.slots) (ha : inI a) (hb : inI b) (kk : J v M R K t0 cells slots h top (pc + 3) ls (.int (zI (min a b)) :: st)) : J v M R K t0 cells slots h top pc ls (.int (zI b) :: .int (zI a) :: st) := r_mmin d w1 w2 w3 w4 hf hl2 hc hs (by rw [mminZ ha hb]; exact kk)
theorem r_mmaxN {idx : Nat} {a b : Nat} (d : decode M.2.1 pc = .ok (.invokestatic idx, 3)) (w1 : Cond.methodLink M.1.cls idx Lib.Math.max.name ∈ big) (w2 : Cond.static Lib.Math.max.name ∈ big) (w3 : Cond.initialized "java/lang/Math" ∈ big) (w4 : Cond.code Lib.Math.max.name Lib.Math.max.code 2 (some .int) ∈ big) (hf : 1 ≤ R.frames) (hl2 : (st.map fun w => w.category).sum + 13 ≤ R.locals) (hc : cells ≤ R.cells) (hs : slots ≤ R.slots) (ha : a < 2147483648) (hb : b < 2147483648) (kk : J v M R K t0 cells slots h top (pc + 3) ls (.int (nI (max a b)) :: st)) : J v M R K t0 cells slots h top pc ls (.int (nI b) :: .int (nI a) :: st) := r_mmax d w1 w2 w3 w4 hf hl2 hc hs (by rw [mmaxN ha hb]; exact kk)
theorem r_mmaxZ {idx : Nat} {a b : Int} (d : decode M.2.1 pc = .ok (.invokestatic idx, 3)) (w1 : Cond.methodLink M.1.cls idx Lib.Math.max.name ∈ big) (w2 : Cond.static Lib.Math.max.name ∈ big) (w3 : Cond.initialized "java/lang/Math" ∈ big) (w4 : Cond.code Lib.Math.max.name Lib.Math.max.code 2 (some .int) ∈ big) (hf : 1 ≤ R.frames) (hl2 : (st.map fun w => w.category).sum + 13 ≤ R.locals) (hc : cells ≤ R.cells) (hs : slots ≤ R.slots) (ha : inI a) (hb : inI b) (kk : J v M R K t0 cells slots h top (pc + 3) ls (.int (zI (max a b)) :: st)) : J v M R K t0 cells slots h top pc ls (.int (zI b) :: .int (zI a) :: st) := r_mmax d w1 w2 w3 w4 hf hl2 hc hs (by rw [mmaxZ ha hb]; exact kk)
theorem r_icmp_eqZ {a b : Int} {off : Int} (tgt : Nat) (d : decode M.2.1 pc = .ok (.if_icmp .eq off, 3)) (ht : (pc : Int) + off = (tgt : Int)) (ha : inI a) (hb : inI b) (kt : a = b → J v M R K t0 cells slots h top tgt ls st) (kf : a ≠ b → J v M R K t0 cells slots h top (pc + 3) ls st) : J v M R K t0 cells slots h top pc ls (.int (zI b) :: .int (zI a) :: st) := by
  exact r_icmp_eq tgt d ht (fun q => kt ((zI_eq ha hb).mp q)) (fun q => kf (fun z => q ((zI_eq ha hb).mpr z)))
theorem r_icmp_neZ {a b : Int} {off : Int} (tgt : Nat) (d : decode M.2.1 pc = .ok (.if_icmp .ne off, 3)) (ht : (pc : Int) + off = (tgt : Int)) (ha : inI a) (hb : inI b) (kt : a ≠ b → J v M R K t0 cells slots h top tgt ls st) (kf : a = b → J v M R K t0 cells slots h top (pc + 3) ls st) : J v M R K t0 cells slots h top pc ls (.int (zI b) :: .int (zI a) :: st) := by
  exact r_icmp_ne tgt d ht (fun q => kt (fun z => q ((zI_eq ha hb).mpr z))) (fun q => kf ((zI_eq ha hb).mp (Decidable.not_not.mp (by simpa using q))))
theorem r_icmp_ltZ {a b : Int} {off : Int} (tgt : Nat) (d : decode M.2.1 pc = .ok (.if_icmp .lt off, 3)) (ht : (pc : Int) + off = (tgt : Int)) (ha : inI a) (hb : inI b) (kt : a < b → J v M R K t0 cells slots h top tgt ls st) (kf : b ≤ a → J v M R K t0 cells slots h top (pc + 3) ls st) : J v M R K t0 cells slots h top pc ls (.int (zI b) :: .int (zI a) :: st) := by
  exact r_icmp_lt tgt d ht (fun q => kt ((zI_lt ha hb).mp q)) (fun q => kf (Int.not_lt.mp (fun z => q ((zI_lt ha hb).mpr z))))
theorem r_icmp_geZ {a b : Int} {off : Int} (tgt : Nat) (d : decode M.2.1 pc = .ok (.if_icmp .ge off, 3)) (ht : (pc : Int) + off = (tgt : Int)) (ha : inI a) (hb : inI b) (kt : b ≤ a → J v M R K t0 cells slots h top tgt ls st) (kf : a < b → J v M R K t0 cells slots h top (pc + 3) ls st) : J v M R K t0 cells slots h top pc ls (.int (zI b) :: .int (zI a) :: st) := by
  exact r_icmp_ge tgt d ht (fun q => kt ((zI_le hb ha).mp q)) (fun q => kf (Int.not_le.mp (fun z => q ((zI_le hb ha).mpr z))))
theorem r_icmp_gtZ {a b : Int} {off : Int} (tgt : Nat) (d : decode M.2.1 pc = .ok (.if_icmp .gt off, 3)) (ht : (pc : Int) + off = (tgt : Int)) (ha : inI a) (hb : inI b) (kt : b < a → J v M R K t0 cells slots h top tgt ls st) (kf : a ≤ b → J v M R K t0 cells slots h top (pc + 3) ls st) : J v M R K t0 cells slots h top pc ls (.int (zI b) :: .int (zI a) :: st) := by
  exact r_icmp_gt tgt d ht (fun q => kt ((zI_lt hb ha).mp q)) (fun q => kf (Int.not_lt.mp (fun z => q ((zI_lt hb ha).mpr z))))
theorem r_icmp_leZ {a b : Int} {off : Int} (tgt : Nat) (d : decode M.2.1 pc = .ok (.if_icmp .le off, 3)) (ht : (pc : Int) + off = (tgt : Int)) (ha : inI a) (hb : inI b) (kt : a ≤ b → J v M R K t0 cells slots h top tgt ls st) (kf : b < a → J v M R K t0 cells slots h top (pc + 3) ls st) : J v M R K t0 cells slots h top pc ls (.int (zI b) :: .int (zI a) :: st) := by
  exact r_icmp_le tgt d ht (fun q => kt ((zI_le ha hb).mp q)) (fun q => kf (Int.not_le.mp (fun z => q ((zI_le ha hb).mpr z))))
end
theorem iF_fil (f : Nat → Nat) (n x : Nat) : filF (iF f) n (nI x) = iF (filF f n x) := by
  funext k
  show (if k < n then nI x else nI (f k)) = nI (if k < n then x else f k)
  split <;> rfl
def GT.addE (G : GT) (a b w : Nat) : GT := (((G.sL (upN G.L G.e (min a b))).sH (upN G.H G.e (max a b))).sc G.n (G.e + 1) G.a G.b).sW (pWt G.W a b w)
theorem c_putE {v : Ev} {h : Hp} {top g : Nat} {G : GT} (he : G.e < 15) {a b w : Nat} (ha : a < 6) (hb : b < 6) : Cal v mX3_putEdge 2 0 0 [.ref g, .int (nI a), .int (nI b), .int (nI w)] (gH v h g G) top (pV (gH v h g (G.addE a b w)) top) noX := by
  refine Cal.ofJ (by decide +kernel) rfl (Nat.le_of_ble_eq_true rfl) fun hz0 => ?_
  refine r_ls [some (.ref g), some (.int (nI a)), some (.int (nI b)), some (.int (nI w))] rfl ?_
  have hg := gH_is v h g G
  refine r_aload_n (pc := 0) (i := 0) (tX3_putEdge.at 0 rfl) rfl rfl ?_
  refine r_get (pc := 1) (tX3_putEdge.at 1 rfl) gf_X3_15 (hg.1) rfl ?_
  refine r_bipush (pc := 4) (w := nI 15) (tX3_putEdge.at 2 rfl) (by decide) ?_
  refine r_icmp_geN (pc := 6) 54 (tX3_putEdge.at 3 rfl) (by decide) (by omega) (by omega) (fun c => by omega) (fun _ => ?_)
  refine r_aload_n (pc := 9) (i := 0) (tX3_putEdge.at 4 rfl) rfl rfl ?_
  refine r_get (pc := 10) (tX3_putEdge.at 5 rfl) gf_X3_24 (hg.1) rfl ?_
  refine r_aload_n (pc := 13) (i := 0) (tX3_putEdge.at 6 rfl) rfl rfl ?_
  refine r_get (pc := 14) (tX3_putEdge.at 7 rfl) gf_X3_15 (hg.1) rfl ?_
  refine r_iload_n (pc := 17) (i := 1) (tX3_putEdge.at 8 rfl) rfl rfl ?_
  refine r_iload_n (pc := 18) (i := 2) (tX3_putEdge.at 9 rfl) rfl rfl ?_
  first | refine r_mminN (pc := 19) (tX3_putEdge.at 10 rfl) ml_X3_52 mw_min_s mw_math mw_min_c (Nat.le_of_ble_eq_true rfl) (Nat.le_of_ble_eq_true rfl) (Nat.le_of_ble_eq_true rfl) (Nat.le_of_ble_eq_true rfl) (by omega) (by omega) ?_ | refine r_mminZ (pc := 19) (tX3_putEdge.at 10 rfl) ml_X3_52 mw_min_s mw_math mw_min_c (Nat.le_of_ble_eq_true rfl) (Nat.le_of_ble_eq_true rfl) (Nat.le_of_ble_eq_true rfl) (Nat.le_of_ble_eq_true rfl) (by omega) (by omega) ?_ | refine r_mmin (pc := 19) (tX3_putEdge.at 10 rfl) ml_X3_52 mw_min_s mw_math mw_min_c (Nat.le_of_ble_eq_true rfl) (Nat.le_of_ble_eq_true rfl) (Nat.le_of_ble_eq_true rfl) (Nat.le_of_ble_eq_true rfl) ?_
  refine r_iast (pc := 22) (tX3_putEdge.at 11 rfl) (hg.2.1) (G.e) (rfl) (by omega) (Nat.le_of_ble_eq_true rfl) ?_
  rw [upd_iF, gH_pL]
  have hg := gH_is v h g (G.sL (upN G.L G.e (min a b)))
  refine r_aload_n (pc := 23) (i := 0) (tX3_putEdge.at 12 rfl) rfl rfl ?_
  refine r_get (pc := 24) (tX3_putEdge.at 13 rfl) gf_X3_28 (hg.1) rfl ?_
  refine r_aload_n (pc := 27) (i := 0) (tX3_putEdge.at 14 rfl) rfl rfl ?_
  refine r_get (pc := 28) (tX3_putEdge.at 15 rfl) gf_X3_15 (hg.1) rfl ?_
  refine r_iload_n (pc := 31) (i := 1) (tX3_putEdge.at 16 rfl) rfl rfl ?_
  refine r_iload_n (pc := 32) (i := 2) (tX3_putEdge.at 17 rfl) rfl rfl ?_
  first | refine r_mmaxN (pc := 33) (tX3_putEdge.at 18 rfl) ml_X3_58 mw_max_s mw_math mw_max_c (Nat.le_of_ble_eq_true rfl) (Nat.le_of_ble_eq_true rfl) (Nat.le_of_ble_eq_true rfl) (Nat.le_of_ble_eq_true rfl) (by omega) (by omega) ?_ | refine r_mmaxZ (pc := 33) (tX3_putEdge.at 18 rfl) ml_X3_58 mw_max_s mw_math mw_max_c (Nat.le_of_ble_eq_true rfl) (Nat.le_of_ble_eq_true rfl) (Nat.le_of_ble_eq_true rfl) (Nat.le_of_ble_eq_true rfl) (by omega) (by omega) ?_ | refine r_mmax (pc := 33) (tX3_putEdge.at 18 rfl) ml_X3_58 mw_max_s mw_math mw_max_c (Nat.le_of_ble_eq_true rfl) (Nat.le_of_ble_eq_true rfl) (Nat.le_of_ble_eq_true rfl) (Nat.le_of_ble_eq_true rfl) ?_
  refine r_iast (pc := 36) (tX3_putEdge.at 19 rfl) (hg.2.2.1) (G.e) (rfl) (he) (Nat.le_of_ble_eq_true rfl) ?_
  rw [upd_iF, gH_pH]
  have hg := gH_is v h g ((G.sL (upN G.L G.e (min a b))).sH (upN G.H G.e (max a b)))
  refine r_aload_n (pc := 37) (i := 0) (tX3_putEdge.at 20 rfl) rfl rfl ?_
  refine r_dup (pc := 38) (tX3_putEdge.at 21 rfl) rfl ?_
  refine r_get (pc := 39) (tX3_putEdge.at 22 rfl) gf_X3_15 (hg.1) rfl ?_
  refine r_iconst (pc := 42) (w := nI 1) (tX3_putEdge.at 23 rfl) (by decide) ?_
  first | refine r_iaddN (pc := 43) (tX3_putEdge.at 24 rfl) ?_ | refine r_iadd (pc := 43) (tX3_putEdge.at 24 rfl) ?_
  refine r_put (pc := 44) (tX3_putEdge.at 25 rfl) pf_X3_15 (hg.1) (Nat.le_of_ble_eq_true rfl) (rfl) (rfl) ?_
  refine r_eq (gH_p0 ((G.sL (upN G.L G.e (min a b))).sH (upN G.H G.e (max a b))) G.n (G.e + 1) G.a G.b) rfl ?_
  have hg := gH_is v h g (((G.sL (upN G.L G.e (min a b))).sH (upN G.H G.e (max a b))).sc G.n (G.e + 1) G.a G.b)
  refine r_aload_n (pc := 47) (i := 0) (tX3_putEdge.at 26 rfl) rfl rfl ?_
  refine r_iload_n (pc := 48) (i := 1) (tX3_putEdge.at 27 rfl) rfl rfl ?_
  refine r_iload_n (pc := 49) (i := 2) (tX3_putEdge.at 28 rfl) rfl rfl ?_
  refine r_iload_n (pc := 50) (i := 3) (tX3_putEdge.at 29 rfl) rfl rfl ?_
  refine r_callV (M' := mX3_putWeight) (pc := 51) (tX3_putEdge.at 30 rfl) ml_X3_67 rfl mw_X3_putWeight ⟨by decide, by decide⟩ (hg.1) rfl rfl (c_putW2 (w := w) ha hb) rfl rfl (Nat.le_of_ble_eq_true rfl) (Nat.le_of_ble_eq_true rfl) (Nat.le_of_ble_eq_true rfl) ?_
  rintro _ _ _ ⟨rfl, rfl, rfl⟩
  refine r_vret (pc := 54) (tX3_putEdge.at 31 rfl) rfl (Nat.le_of_ble_eq_true rfl) (Nat.le_of_ble_eq_true rfl) ?_
  exact ⟨rfl, rfl, rfl⟩
/-- the row without the place i, the last place is then m -/
def shN (f : Nat → Nat) (i m : Nat) : Nat → Nat := fun k => if i ≤ k ∧ k < m then f (k + 1) else f k
theorem shN_0 (f : Nat → Nat) (i : Nat) : shN f i i = f := by
  funext k
  unfold shN
  rw [if_neg (by omega)]
theorem shN_s (f : Nat → Nat) {i m : Nat} (hm : i ≤ m) : upN (shN f i m) m (f (m + 1)) = shN f i (m + 1) := by
  funext k
  unfold upN shN
  by_cases h1 : k = m
  · rw [if_pos h1, if_pos (by omega), h1]
  · rw [if_neg h1]
    by_cases h2 : i ≤ k ∧ k < m
    · rw [if_pos h2, if_pos (by omega)]
    · rw [if_neg h2, if_neg (by omega)]
def GT.rmE (G : GT) (i : Nat) : GT := (((G.sW (pWt G.W (G.L i) (G.H i) 0)).sc G.n (G.e - 1) G.a G.b).sL (shN G.L i (G.e - 1))).sH (shN G.H i (G.e - 1))
theorem c_dropE {v : Ev} {h : Hp} {top g : Nat} {G : GT} (he : G.e ≤ 15) {i : Nat} (hi : i < G.e) (hl : G.L i < 6) (hh : G.H i < 6) : Cal v mX3_dropEdge 2 0 0 [.ref g, .int (nI i)] (gH v h g G) top (pV (gH v h g (G.rmE i)) top) noX := by
  refine Cal.ofJ (by decide +kernel) rfl (Nat.le_of_ble_eq_true rfl) fun hz0 => ?_
  refine r_ls [some (.ref g), some (.int (nI i)), none] rfl ?_
  have hg := gH_is v h g G
  refine r_aload_n (pc := 0) (i := 0) (tX3_dropEdge.at 0 rfl) rfl rfl ?_
  refine r_aload_n (pc := 1) (i := 0) (tX3_dropEdge.at 1 rfl) rfl rfl ?_
  refine r_get (pc := 2) (tX3_dropEdge.at 2 rfl) gf_X3_24 (hg.1) rfl ?_
  refine r_iload_n (pc := 5) (i := 1) (tX3_dropEdge.at 3 rfl) rfl rfl ?_
  refine r_iald (pc := 6) (tX3_dropEdge.at 4 rfl) (hg.2.1) (i) (rfl) (by omega) (Nat.le_of_ble_eq_true rfl) ?_
  refine r_aload_n (pc := 7) (i := 0) (tX3_dropEdge.at 5 rfl) rfl rfl ?_
  refine r_get (pc := 8) (tX3_dropEdge.at 6 rfl) gf_X3_28 (hg.1) rfl ?_
  refine r_iload_n (pc := 11) (i := 1) (tX3_dropEdge.at 7 rfl) rfl rfl ?_
  refine r_iald (pc := 12) (tX3_dropEdge.at 8 rfl) (hg.2.2.1) (i) (rfl) (by omega) (Nat.le_of_ble_eq_true rfl) ?_
  refine r_iconst (pc := 13) (w := nI 0) (tX3_dropEdge.at 9 rfl) (by decide) ?_
  refine r_callV (M' := mX3_putWeight) (pc := 14) (tX3_dropEdge.at 10 rfl) ml_X3_67 rfl mw_X3_putWeight ⟨by decide, by decide⟩ (hg.1) rfl rfl (c_putW2 (a := G.L i) (b := G.H i) (w := 0) hl hh) rfl rfl (Nat.le_of_ble_eq_true rfl) (Nat.le_of_ble_eq_true rfl) (Nat.le_of_ble_eq_true rfl) ?_
  rintro _ _ _ ⟨rfl, rfl, rfl⟩
  have hg := gH_is v h g (G.sW (pWt G.W (G.L i) (G.H i) 0))
  refine r_aload_n (pc := 17) (i := 0) (tX3_dropEdge.at 11 rfl) rfl rfl ?_
  refine r_dup (pc := 18) (tX3_dropEdge.at 12 rfl) rfl ?_
  refine r_get (pc := 19) (tX3_dropEdge.at 13 rfl) gf_X3_15 (hg.1) rfl ?_
  refine r_iconst (pc := 22) (w := nI 1) (tX3_dropEdge.at 14 rfl) (by decide) ?_
  refine r_isub (pc := 23) (tX3_dropEdge.at 15 rfl) ?_
  rw [show nI (G.sW (pWt G.W (G.L i) (G.H i) 0)).e - nI 1 = nI (G.e - 1) from nI_subZ (a := G.e) (b := 1) (by omega)]
  refine r_put (pc := 24) (tX3_dropEdge.at 16 rfl) pf_X3_15 (hg.1) (Nat.le_of_ble_eq_true rfl) (rfl) (rfl) ?_
  refine r_eq (gH_p0 (G.sW (pWt G.W (G.L i) (G.H i) 0)) G.n (G.e - 1) G.a G.b) rfl ?_
  refine r_iload_n (pc := 27) (i := 1) (tX3_dropEdge.at 17 rfl) rfl rfl ?_
  refine r_istore_n (pc := 28) (i := 2) (tX3_dropEdge.at 18 rfl) rfl (by decide) ?_
  refine r_eq (h2 := gH v h g ((((G.sW (pWt G.W (G.L i) (G.H i) 0)).sc G.n (G.e - 1) G.a G.b).sL (shN G.L i i)).sH (shN G.H i i))) (by rw [shN_0, shN_0]; rfl) rfl ?_
  have key : ∀ m k, k + m = G.e - 1 → i ≤ k → J v mX3_dropEdge (rmOf 2 0 0) (KM v (pV (gH v h g (G.rmE i)) top) noX 0 0) top 0 0 (gH v h g ((((G.sW (pWt G.W (G.L i) (G.H i) 0)).sc G.n (G.e - 1) G.a G.b).sL (shN G.L i k)).sH (shN G.H i k))) top 29 [some (.ref g), some (.int (nI i)), some (.int (nI k))] [] := by
    intro m
    induction m with
    | zero =>
      intro k hk hik
      have hk : k = G.e - 1 := by omega
      subst hk
      have hg := gH_is v h g ((((G.sW (pWt G.W (G.L i) (G.H i) 0)).sc G.n (G.e - 1) G.a G.b).sL (shN G.L i (G.e - 1))).sH (shN G.H i (G.e - 1)))
      refine r_iload_n (pc := 29) (i := 2) (tX3_dropEdge.at 19 rfl) rfl rfl ?_
      refine r_aload_n (pc := 30) (i := 0) (tX3_dropEdge.at 20 rfl) rfl rfl ?_
      refine r_get (pc := 31) (tX3_dropEdge.at 21 rfl) gf_X3_15 (hg.1) rfl ?_
      rw [show ((((G.sW (pWt G.W (G.L i) (G.H i) 0)).sc G.n (G.e - 1) G.a G.b).sL (shN G.L i (G.e - 1))).sH (shN G.H i (G.e - 1))).e = G.e - 1 from rfl]
      refine r_icmp_geN (pc := 34) 71 (tX3_dropEdge.at 22 rfl) (by decide) (by omega) (by omega) (fun _ => ?_) (fun c => by omega)
      refine r_vret (pc := 71) (tX3_dropEdge.at 45 rfl) rfl (Nat.le_of_ble_eq_true rfl) (Nat.le_of_ble_eq_true rfl) ?_
      exact ⟨rfl, rfl, rfl⟩
    | succ m ih =>
      intro k hk hik
      generalize hX : (((G.sW (pWt G.W (G.L i) (G.H i) 0)).sc G.n (G.e - 1) G.a G.b).sL (shN G.L i k)).sH (shN G.H i k) = X
      have eL : X.L = shN G.L i k := by rw [← hX]; rfl
      have eH : X.H = shN G.H i k := by rw [← hX]; rfl
      have ee : X.e = G.e - 1 := by rw [← hX]; rfl
      have hg := gH_is v h g X
      refine r_iload_n (pc := 29) (i := 2) (tX3_dropEdge.at 19 rfl) rfl rfl ?_
      refine r_aload_n (pc := 30) (i := 0) (tX3_dropEdge.at 20 rfl) rfl rfl ?_
      refine r_get (pc := 31) (tX3_dropEdge.at 21 rfl) gf_X3_15 (hg.1) rfl ?_
      rw [ee]
      refine r_icmp_geN (pc := 34) 71 (tX3_dropEdge.at 22 rfl) (by decide) (by omega) (by omega) (fun c => by omega) (fun _ => ?_)
      refine r_aload_n (pc := 37) (i := 0) (tX3_dropEdge.at 23 rfl) rfl rfl ?_
      refine r_get (pc := 38) (tX3_dropEdge.at 24 rfl) gf_X3_24 (hg.1) rfl ?_
      refine r_iload_n (pc := 41) (i := 2) (tX3_dropEdge.at 25 rfl) rfl rfl ?_
      refine r_aload_n (pc := 42) (i := 0) (tX3_dropEdge.at 26 rfl) rfl rfl ?_
      refine r_get (pc := 43) (tX3_dropEdge.at 27 rfl) gf_X3_24 (hg.1) rfl ?_
      refine r_iload_n (pc := 46) (i := 2) (tX3_dropEdge.at 28 rfl) rfl rfl ?_
      refine r_iconst (pc := 47) (w := nI 1) (tX3_dropEdge.at 29 rfl) (by decide) ?_
      first | refine r_iaddN (pc := 48) (tX3_dropEdge.at 30 rfl) ?_ | refine r_iadd (pc := 48) (tX3_dropEdge.at 30 rfl) ?_
      refine r_iald (pc := 49) (tX3_dropEdge.at 31 rfl) (hg.2.1) (k + 1) (rfl) (by omega) (Nat.le_of_ble_eq_true rfl) ?_
      refine r_iast (pc := 50) (tX3_dropEdge.at 32 rfl) (hg.2.1) (k) (rfl) (by omega) (Nat.le_of_ble_eq_true rfl) ?_
      rw [show iF X.L (k + 1) = nI (G.L (k + 1)) from by rw [eL]; show nI (shN G.L i k (k + 1)) = _; unfold shN; rw [if_neg (by omega)], upd_iF, eL, shN_s G.L hik, gH_pL]
      have hg2 := gH_is v h g (X.sL (shN G.L i (k + 1)))
      refine r_aload_n (pc := 51) (i := 0) (tX3_dropEdge.at 33 rfl) rfl rfl ?_
      refine r_get (pc := 52) (tX3_dropEdge.at 34 rfl) gf_X3_28 (hg2.1) rfl ?_
      refine r_iload_n (pc := 55) (i := 2) (tX3_dropEdge.at 35 rfl) rfl rfl ?_
      refine r_aload_n (pc := 56) (i := 0) (tX3_dropEdge.at 36 rfl) rfl rfl ?_
      refine r_get (pc := 57) (tX3_dropEdge.at 37 rfl) gf_X3_28 (hg2.1) rfl ?_
      refine r_iload_n (pc := 60) (i := 2) (tX3_dropEdge.at 38 rfl) rfl rfl ?_
      refine r_iconst (pc := 61) (w := nI 1) (tX3_dropEdge.at 39 rfl) (by decide) ?_
      first | refine r_iaddN (pc := 62) (tX3_dropEdge.at 40 rfl) ?_ | refine r_iadd (pc := 62) (tX3_dropEdge.at 40 rfl) ?_
      refine r_iald (pc := 63) (tX3_dropEdge.at 41 rfl) (hg2.2.2.1) (k + 1) (rfl) (by omega) (Nat.le_of_ble_eq_true rfl) ?_
      refine r_iast (pc := 64) (tX3_dropEdge.at 42 rfl) (hg2.2.2.1) (k) (rfl) (by omega) (Nat.le_of_ble_eq_true rfl) ?_
      rw [show iF (X.sL (shN G.L i (k + 1))).H (k + 1) = nI (G.H (k + 1)) from by show nI (X.H (k + 1)) = _; rw [eH]; unfold shN; rw [if_neg (by omega)], upd_iF, show (X.sL (shN G.L i (k + 1))).H = shN G.H i k from eH, shN_s G.H hik, gH_pH]
      first | refine r_iincN (pc := 65) (tX3_dropEdge.at 43 rfl) rfl (by decide) ?_ | refine r_iinc (pc := 65) (tX3_dropEdge.at 43 rfl) rfl rfl (by decide) ?_
      refine r_goto (pc := 68) 29 (tX3_dropEdge.at 44 rfl) (by decide) ?_
      refine r_eq ?_ rfl (ih (k + 1) (by omega) (by omega))
      rw [← hX]
      rfl
  exact key (G.e - 1 - i) i (by omega) (Nat.le_refl _)
def GT.clr (v : Ev) (G : GT) (n : Nat) : GT := (((G.sW (filF G.W 36 0)).sB (filF G.B 0 0)).sc n 0 0 n).sF (oA v 0)
def idB (B : Nat → Nat) (u : Nat) : Nat → Nat := fun k => if k < u then k else B k
theorem idB_s (B : Nat → Nat) (u : Nat) : upN (idB B u) u u = idB B (u + 1) := by
  funext k
  unfold upN idB
  by_cases h1 : k = u
  · rw [if_pos h1, if_pos (by omega), h1]
  · rw [if_neg h1]
    by_cases h2 : k < u
    · rw [if_pos h2, if_pos (by omega)]
    · rw [if_neg h2, if_neg (by omega)]
theorem idB_0 (B : Nat → Nat) : idB B 0 = B := by
  funext k
  unfold idB
  rw [if_neg (by omega)]
def GT.cl0 (v : Ev) (G : GT) (n u : Nat) : GT := (((G.sc n 0 0 n).sF (oA v 0)).sW (filF G.W 36 0)).sB (idB G.B u)
theorem c_clear {v : Ev} {h : Hp} {top g : Nat} {G : GT} {n : Nat} (hn : n ≤ 6) : Cal v mX3_clear 2 0 0 [.ref g, .int (nI n)] (gH v h g G) top (pV (gH v h g (G.cl0 v n 6)) top) noX := by
  refine Cal.ofJ (by decide +kernel) rfl (Nat.le_of_ble_eq_true rfl) fun hz0 => ?_
  refine r_ls [some (.ref g), some (.int (nI n)), none] rfl ?_
  have hg := gH_is v h g G
  refine r_aload_n (pc := 0) (i := 0) (tX3_clear.at 0 rfl) rfl rfl ?_
  refine r_iconst (pc := 1) (w := nI 0) (tX3_clear.at 1 rfl) (by decide) ?_
  refine r_bipush (pc := 2) (w := nI 6) (tX3_clear.at 2 rfl) (by decide) ?_
  refine r_iload_n (pc := 4) (i := 1) (tX3_clear.at 3 rfl) rfl rfl ?_
  first | refine r_mminN (pc := 5) (tX3_clear.at 4 rfl) ml_X3_52 mw_min_s mw_math mw_min_c (Nat.le_of_ble_eq_true rfl) (Nat.le_of_ble_eq_true rfl) (Nat.le_of_ble_eq_true rfl) (Nat.le_of_ble_eq_true rfl) (by omega) (by omega) ?_ | refine r_mminZ (pc := 5) (tX3_clear.at 4 rfl) ml_X3_52 mw_min_s mw_math mw_min_c (Nat.le_of_ble_eq_true rfl) (Nat.le_of_ble_eq_true rfl) (Nat.le_of_ble_eq_true rfl) (Nat.le_of_ble_eq_true rfl) (by omega) (by omega) ?_ | refine r_mmin (pc := 5) (tX3_clear.at 4 rfl) ml_X3_52 mw_min_s mw_math mw_min_c (Nat.le_of_ble_eq_true rfl) (Nat.le_of_ble_eq_true rfl) (Nat.le_of_ble_eq_true rfl) (Nat.le_of_ble_eq_true rfl) ?_
  first | refine r_mmaxN (pc := 8) (tX3_clear.at 5 rfl) ml_X3_58 mw_max_s mw_math mw_max_c (Nat.le_of_ble_eq_true rfl) (Nat.le_of_ble_eq_true rfl) (Nat.le_of_ble_eq_true rfl) (Nat.le_of_ble_eq_true rfl) (by omega) (by omega) ?_ | refine r_mmaxZ (pc := 8) (tX3_clear.at 5 rfl) ml_X3_58 mw_max_s mw_math mw_max_c (Nat.le_of_ble_eq_true rfl) (Nat.le_of_ble_eq_true rfl) (Nat.le_of_ble_eq_true rfl) (Nat.le_of_ble_eq_true rfl) (by omega) (by omega) ?_ | refine r_mmax (pc := 8) (tX3_clear.at 5 rfl) ml_X3_58 mw_max_s mw_math mw_max_c (Nat.le_of_ble_eq_true rfl) (Nat.le_of_ble_eq_true rfl) (Nat.le_of_ble_eq_true rfl) (Nat.le_of_ble_eq_true rfl) ?_
  rw [show max 0 (min 6 n) = n by omega]
  refine r_put (pc := 11) (tX3_clear.at 6 rfl) pf_X3_9 (hg.1) (Nat.le_of_ble_eq_true rfl) (rfl) (rfl) ?_
  refine r_eq (gH_p0 G n G.e G.a G.b) rfl ?_
  have hg := gH_is v h g (G.sc n G.e G.a G.b)
  refine r_aload_n (pc := 14) (i := 0) (tX3_clear.at 7 rfl) rfl rfl ?_
  refine r_iconst (pc := 15) (w := nI 0) (tX3_clear.at 8 rfl) (by decide) ?_
  refine r_put (pc := 16) (tX3_clear.at 9 rfl) pf_X3_15 (hg.1) (Nat.le_of_ble_eq_true rfl) (rfl) (rfl) ?_
  refine r_eq (gH_p0 (G.sc n G.e G.a G.b) n 0 G.a G.b) rfl ?_
  have hg := gH_is v h g ((G.sc n G.e G.a G.b).sc n 0 G.a G.b)
  refine r_aload_n (pc := 19) (i := 0) (tX3_clear.at 10 rfl) rfl rfl ?_
  refine r_iconst (pc := 20) (w := nI 0) (tX3_clear.at 11 rfl) (by decide) ?_
  refine r_put (pc := 21) (tX3_clear.at 12 rfl) pf_X3_18 (hg.1) (Nat.le_of_ble_eq_true rfl) (rfl) (rfl) ?_
  refine r_eq (gH_p0 ((G.sc n G.e G.a G.b).sc n 0 G.a G.b) n 0 0 G.b) rfl ?_
  have hg := gH_is v h g (((G.sc n G.e G.a G.b).sc n 0 G.a G.b).sc n 0 0 G.b)
  refine r_aload_n (pc := 24) (i := 0) (tX3_clear.at 13 rfl) rfl rfl ?_
  refine r_aload_n (pc := 25) (i := 0) (tX3_clear.at 14 rfl) rfl rfl ?_
  refine r_get (pc := 26) (tX3_clear.at 15 rfl) gf_X3_9 (hg.1) rfl ?_
  refine r_put (pc := 29) (tX3_clear.at 16 rfl) pf_X3_21 (hg.1) (Nat.le_of_ble_eq_true rfl) (rfl) (rfl) ?_
  refine r_eq (gH_p0 (((G.sc n G.e G.a G.b).sc n 0 G.a G.b).sc n 0 0 G.b) n 0 0 n) rfl ?_
  have hg := gH_is v h g (G.sc n 0 0 n)
  refine r_aload_n (pc := 32) (i := 0) (tX3_clear.at 17 rfl) rfl rfl ?_
  refine r_getCost (pc := 33) (tX3_clear.at 18 rfl) fn_X3_40 ?_
  refine r_put (pc := 36) (tX3_clear.at 19 rfl) pf_X3_43 (hg.1) (Nat.le_of_ble_eq_true rfl) (rfl) (rfl) ?_
  refine r_eq (gH_pF (G.sc n 0 0 n) (oA v 0)) rfl ?_
  have hg := gH_is v h g ((G.sc n 0 0 n).sF (oA v 0))
  refine r_aload_n (pc := 39) (i := 0) (tX3_clear.at 20 rfl) rfl rfl ?_
  refine r_get (pc := 40) (tX3_clear.at 21 rfl) gf_X3_31 (hg.1) rfl ?_
  refine r_iconst (pc := 43) (w := nI 0) (tX3_clear.at 22 rfl) (by decide) ?_
  refine r_callS (M' := mJ7_fill_53178) (pc := 44) (tX3_clear.at 23 rfl) ml_X3_61 rfl mw_J7_fill_53178 ⟨by decide, by decide⟩ (c_fillI (x := nI 0) hg.2.2.2.1 (by omega)) rfl rfl (Nat.le_of_ble_eq_true rfl) (Nat.le_of_ble_eq_true rfl) (Nat.le_of_ble_eq_true rfl) ?_
  rintro _ _ _ ⟨rfl, rfl, rfl⟩
  rw [iF_fil, gH_pW]
  refine r_iconst (pc := 47) (w := nI 0) (tX3_clear.at 24 rfl) (by decide) ?_
  refine r_istore_n (pc := 48) (i := 2) (tX3_clear.at 25 rfl) rfl (by decide) ?_
  refine r_eq (h2 := gH v h g (G.cl0 v n 0)) (by unfold GT.cl0; rw [idB_0]; rfl) rfl ?_
  refine down (n := 6) (P := fun u => J v mX3_clear (rmOf 2 0 0) (KM v (pV (gH v h g (G.cl0 v n 6)) top) noX 0 0) top 0 0 (gH v h g (G.cl0 v n u)) top 49 [some (.ref g), some (.int (nI n)), some (.int (nI u))] []) ?_ ?_ 0 (by omega)
  · refine r_iload_n (pc := 49) (i := 2) (tX3_clear.at 26 rfl) rfl rfl ?_
    refine r_bipush (pc := 50) (w := nI 6) (tX3_clear.at 27 rfl) (by decide) ?_
    refine r_icmp_geN (pc := 52) 68 (tX3_clear.at 28 rfl) (by decide) (by omega) (by omega) (fun _ => ?_) (fun c => by omega)
    refine r_vret (pc := 68) (tX3_clear.at 36 rfl) rfl (Nat.le_of_ble_eq_true rfl) (Nat.le_of_ble_eq_true rfl) ?_
    exact ⟨rfl, rfl, rfl⟩
  · intro u hu ih
    have hg := gH_is v h g (G.cl0 v n u)
    refine r_iload_n (pc := 49) (i := 2) (tX3_clear.at 26 rfl) rfl rfl ?_
    refine r_bipush (pc := 50) (w := nI 6) (tX3_clear.at 27 rfl) (by decide) ?_
    refine r_icmp_geN (pc := 52) 68 (tX3_clear.at 28 rfl) (by decide) (by omega) (by omega) (fun c => by omega) (fun _ => ?_)
    refine r_aload_n (pc := 55) (i := 0) (tX3_clear.at 29 rfl) rfl rfl ?_
    refine r_get (pc := 56) (tX3_clear.at 30 rfl) gf_X3_34 (hg.1) rfl ?_
    refine r_iload_n (pc := 59) (i := 2) (tX3_clear.at 31 rfl) rfl rfl ?_
    refine r_iload_n (pc := 60) (i := 2) (tX3_clear.at 32 rfl) rfl rfl ?_
    refine r_iast (pc := 61) (tX3_clear.at 33 rfl) (hg.2.2.2.2.1) (u) (rfl) (by omega) (Nat.le_of_ble_eq_true rfl) ?_
    rw [upd_iF, show (G.cl0 v n u).B = idB G.B u from rfl, idB_s, gH_pB]
    first | refine r_iincN (pc := 62) (tX3_clear.at 34 rfl) rfl (by decide) ?_ | refine r_iinc (pc := 62) (tX3_clear.at 34 rfl) rfl rfl (by decide) ?_
    refine r_goto (pc := 65) 49 (tX3_clear.at 35 rfl) (by decide) ?_
    exact ih
def GT.cop (G X : GT) : GT := ((X.n, X.e, X.a, X.b), (cpF X.L G.L 15, cpF X.H G.H 15, cpF X.W G.W 36, cpF X.B G.B 6, G.O), X.F)
theorem c_copy {v : Ev} {h : Hp} {top g o : Nat} {G X : GT} (ho : isG v h o X) (hne : o + 6 ≤ g ∨ g + 6 ≤ o) : Cal v mX3_copyFrom 2 0 0 [.ref g, .ref o] (gH v h g G) top (pV (gH v h g (G.cop X)) top) noX := by
  have HO : ∀ Y : GT, isG v (gH v h g Y) o X := fun Y => ho.frame (fun q h1 h2 => gH_out v h g Y (by omega))
  refine Cal.ofJ (by decide +kernel) rfl (Nat.le_of_ble_eq_true rfl) fun hz0 => ?_
  refine r_ls [some (.ref g), some (.ref o)] rfl ?_
  have hg := gH_is v h g G
  have hx := HO G
  refine r_aload_n (pc := 0) (i := 0) (tX3_copyFrom.at 0 rfl) rfl rfl ?_
  refine r_aload_n (pc := 1) (i := 1) (tX3_copyFrom.at 1 rfl) rfl rfl ?_
  refine r_get (pc := 2) (tX3_copyFrom.at 2 rfl) gf_X3_9 (hx.1) rfl ?_
  refine r_put (pc := 5) (tX3_copyFrom.at 3 rfl) pf_X3_9 (hg.1) (Nat.le_of_ble_eq_true rfl) (rfl) (rfl) ?_
  refine r_eq (gH_p0 G X.n G.e G.a G.b) rfl ?_
  have hg := gH_is v h g (G.sc X.n G.e G.a G.b)
  have hx := HO (G.sc X.n G.e G.a G.b)
  refine r_aload_n (pc := 8) (i := 0) (tX3_copyFrom.at 4 rfl) rfl rfl ?_
  refine r_aload_n (pc := 9) (i := 1) (tX3_copyFrom.at 5 rfl) rfl rfl ?_
  refine r_get (pc := 10) (tX3_copyFrom.at 6 rfl) gf_X3_15 (hx.1) rfl ?_
  refine r_put (pc := 13) (tX3_copyFrom.at 7 rfl) pf_X3_15 (hg.1) (Nat.le_of_ble_eq_true rfl) (rfl) (rfl) ?_
  refine r_eq (gH_p0 (G.sc X.n G.e G.a G.b) X.n X.e G.a G.b) rfl ?_
  have hg := gH_is v h g (G.sc X.n X.e G.a G.b)
  have hx := HO (G.sc X.n X.e G.a G.b)
  refine r_aload_n (pc := 16) (i := 0) (tX3_copyFrom.at 8 rfl) rfl rfl ?_
  refine r_aload_n (pc := 17) (i := 1) (tX3_copyFrom.at 9 rfl) rfl rfl ?_
  refine r_get (pc := 18) (tX3_copyFrom.at 10 rfl) gf_X3_18 (hx.1) rfl ?_
  refine r_put (pc := 21) (tX3_copyFrom.at 11 rfl) pf_X3_18 (hg.1) (Nat.le_of_ble_eq_true rfl) (rfl) (rfl) ?_
  refine r_eq (gH_p0 (G.sc X.n X.e G.a G.b) X.n X.e X.a G.b) rfl ?_
  have hg := gH_is v h g (G.sc X.n X.e X.a G.b)
  have hx := HO (G.sc X.n X.e X.a G.b)
  refine r_aload_n (pc := 24) (i := 0) (tX3_copyFrom.at 12 rfl) rfl rfl ?_
  refine r_aload_n (pc := 25) (i := 1) (tX3_copyFrom.at 13 rfl) rfl rfl ?_
  refine r_get (pc := 26) (tX3_copyFrom.at 14 rfl) gf_X3_21 (hx.1) rfl ?_
  refine r_put (pc := 29) (tX3_copyFrom.at 15 rfl) pf_X3_21 (hg.1) (Nat.le_of_ble_eq_true rfl) (rfl) (rfl) ?_
  refine r_eq (gH_p0 (G.sc X.n X.e X.a G.b) X.n X.e X.a X.b) rfl ?_
  have hg := gH_is v h g (G.sc X.n X.e X.a X.b)
  have hx := HO (G.sc X.n X.e X.a X.b)
  refine r_aload_n (pc := 32) (i := 0) (tX3_copyFrom.at 16 rfl) rfl rfl ?_
  refine r_aload_n (pc := 33) (i := 1) (tX3_copyFrom.at 17 rfl) rfl rfl ?_
  refine r_get (pc := 34) (tX3_copyFrom.at 18 rfl) gf_X3_43 (hx.1) rfl ?_
  refine r_put (pc := 37) (tX3_copyFrom.at 19 rfl) pf_X3_43 (hg.1) (Nat.le_of_ble_eq_true rfl) (rfl) (rfl) ?_
  refine r_eq (gH_pF (G.sc X.n X.e X.a X.b) X.F) rfl ?_
  have hg := gH_is v h g ((G.sc X.n X.e X.a X.b).sF X.F)
  have hx := HO ((G.sc X.n X.e X.a X.b).sF X.F)
  refine r_aload_n (pc := 40) (i := 1) (tX3_copyFrom.at 20 rfl) rfl rfl ?_
  refine r_get (pc := 41) (tX3_copyFrom.at 21 rfl) gf_X3_24 (hx.1) rfl ?_
  refine r_iconst (pc := 44) (w := nI 0) (tX3_copyFrom.at 22 rfl) (by decide) ?_
  refine r_aload_n (pc := 45) (i := 0) (tX3_copyFrom.at 23 rfl) rfl rfl ?_
  refine r_get (pc := 46) (tX3_copyFrom.at 24 rfl) gf_X3_24 (hg.1) rfl ?_
  refine r_iconst (pc := 49) (w := nI 0) (tX3_copyFrom.at 25 rfl) (by decide) ?_
  refine r_bipush (pc := 50) (w := nI 15) (tX3_copyFrom.at 26 rfl) (by decide) ?_
  refine r_acopyI (pc := 52) _ (tX3_copyFrom.at 27 rfl) ml_X3_46 (hx.2.1) (hg.2.1) (by omega) rfl rfl rfl (Nat.le_of_ble_eq_true rfl) (Nat.le_of_ble_eq_true rfl) (Nat.le_of_ble_eq_true rfl) (Nat.le_refl _) (Nat.le_of_ble_eq_true rfl) (Nat.le_of_ble_eq_true rfl) ?_
  rw [iF_cpF, gH_pL]
  have hg := gH_is v h g (((G.sc X.n X.e X.a X.b).sF X.F).sL (cpF X.L G.L 15))
  have hx := HO (((G.sc X.n X.e X.a X.b).sF X.F).sL (cpF X.L G.L 15))
  refine r_aload_n (pc := 55) (i := 1) (tX3_copyFrom.at 28 rfl) rfl rfl ?_
  refine r_get (pc := 56) (tX3_copyFrom.at 29 rfl) gf_X3_28 (hx.1) rfl ?_
  refine r_iconst (pc := 59) (w := nI 0) (tX3_copyFrom.at 30 rfl) (by decide) ?_
  refine r_aload_n (pc := 60) (i := 0) (tX3_copyFrom.at 31 rfl) rfl rfl ?_
  refine r_get (pc := 61) (tX3_copyFrom.at 32 rfl) gf_X3_28 (hg.1) rfl ?_
  refine r_iconst (pc := 64) (w := nI 0) (tX3_copyFrom.at 33 rfl) (by decide) ?_
  refine r_bipush (pc := 65) (w := nI 15) (tX3_copyFrom.at 34 rfl) (by decide) ?_
  refine r_acopyI (pc := 67) _ (tX3_copyFrom.at 35 rfl) ml_X3_46 (hx.2.2.1) (hg.2.2.1) (by omega) rfl rfl rfl (Nat.le_of_ble_eq_true rfl) (Nat.le_of_ble_eq_true rfl) (Nat.le_of_ble_eq_true rfl) (Nat.le_refl _) (Nat.le_of_ble_eq_true rfl) (Nat.le_of_ble_eq_true rfl) ?_
  rw [iF_cpF, gH_pH]
  have hg := gH_is v h g ((((G.sc X.n X.e X.a X.b).sF X.F).sL (cpF X.L G.L 15)).sH (cpF X.H G.H 15))
  have hx := HO ((((G.sc X.n X.e X.a X.b).sF X.F).sL (cpF X.L G.L 15)).sH (cpF X.H G.H 15))
  refine r_aload_n (pc := 70) (i := 1) (tX3_copyFrom.at 36 rfl) rfl rfl ?_
  refine r_get (pc := 71) (tX3_copyFrom.at 37 rfl) gf_X3_31 (hx.1) rfl ?_
  refine r_iconst (pc := 74) (w := nI 0) (tX3_copyFrom.at 38 rfl) (by decide) ?_
  refine r_aload_n (pc := 75) (i := 0) (tX3_copyFrom.at 39 rfl) rfl rfl ?_
  refine r_get (pc := 76) (tX3_copyFrom.at 40 rfl) gf_X3_31 (hg.1) rfl ?_
  refine r_iconst (pc := 79) (w := nI 0) (tX3_copyFrom.at 41 rfl) (by decide) ?_
  refine r_bipush (pc := 80) (w := nI 36) (tX3_copyFrom.at 42 rfl) (by decide) ?_
  refine r_acopyI (pc := 82) _ (tX3_copyFrom.at 43 rfl) ml_X3_46 (hx.2.2.2.1) (hg.2.2.2.1) (by omega) rfl rfl rfl (Nat.le_of_ble_eq_true rfl) (Nat.le_of_ble_eq_true rfl) (Nat.le_of_ble_eq_true rfl) (Nat.le_refl _) (Nat.le_of_ble_eq_true rfl) (Nat.le_of_ble_eq_true rfl) ?_
  rw [iF_cpF, gH_pW]
  have hg := gH_is v h g (((((G.sc X.n X.e X.a X.b).sF X.F).sL (cpF X.L G.L 15)).sH (cpF X.H G.H 15)).sW (cpF X.W G.W 36))
  have hx := HO (((((G.sc X.n X.e X.a X.b).sF X.F).sL (cpF X.L G.L 15)).sH (cpF X.H G.H 15)).sW (cpF X.W G.W 36))
  refine r_aload_n (pc := 85) (i := 1) (tX3_copyFrom.at 44 rfl) rfl rfl ?_
  refine r_get (pc := 86) (tX3_copyFrom.at 45 rfl) gf_X3_34 (hx.1) rfl ?_
  refine r_iconst (pc := 89) (w := nI 0) (tX3_copyFrom.at 46 rfl) (by decide) ?_
  refine r_aload_n (pc := 90) (i := 0) (tX3_copyFrom.at 47 rfl) rfl rfl ?_
  refine r_get (pc := 91) (tX3_copyFrom.at 48 rfl) gf_X3_34 (hg.1) rfl ?_
  refine r_iconst (pc := 94) (w := nI 0) (tX3_copyFrom.at 49 rfl) (by decide) ?_
  refine r_bipush (pc := 95) (w := nI 6) (tX3_copyFrom.at 50 rfl) (by decide) ?_
  refine r_acopyI (pc := 97) _ (tX3_copyFrom.at 51 rfl) ml_X3_46 (hx.2.2.2.2.1) (hg.2.2.2.2.1) (by omega) rfl rfl rfl (Nat.le_of_ble_eq_true rfl) (Nat.le_of_ble_eq_true rfl) (Nat.le_of_ble_eq_true rfl) (Nat.le_refl _) (Nat.le_of_ble_eq_true rfl) (Nat.le_of_ble_eq_true rfl) ?_
  rw [iF_cpF, gH_pB]
  refine r_vret (pc := 100) (tX3_copyFrom.at 52 rfl) rfl (Nat.le_of_ble_eq_true rfl) (Nat.le_of_ble_eq_true rfl) ?_
  exact ⟨rfl, rfl, rfl⟩
end
section
/-! ===== Graph's constructor, History ===== -/
def G0 (v : Ev) : GT := ((0, 0, 0, 0), (fun _ => 0, fun _ => 0, fun _ => 0, fun _ => 0, fun _ => 0), oA v 0)
def gNew : List Value := [.int 0, .int 0, .int 0, .int 0, .null, .null, .null, .null, .null, .null]
def pT (h : Hp) (top : Nat) : Option Value → Hp → Nat → Prop := fun r h' top' => r = none ∧ h = h' ∧ top = top'
theorem c_gInit {v : Ev} {h : Hp} {g : Nat} (hg : h g = some (ob 3 gNew)) : Cal v mX3_init 1 5 78 [.ref g] h (g + 1) (pT (gH v h g (G0 v)) (g + 6)) noX := by
  refine Cal.ofJ (by decide +kernel) rfl (Nat.le_of_ble_eq_true rfl) fun hz0 => ?_
  refine r_ls [some (.ref g)] rfl ?_
  have e0 : ∀ (h : Hp) (x : va_E), hp h g x g = some x := fun h x => hp_eq h g x
  have e1 : ∀ (h : Hp) (k : Nat) (x y : va_E), hp (hp h g x) (g + 1 + k) y g = some x := fun h k x y => (hp_ne _ _ (by omega)).trans (hp_eq _ _ _)
  refine r_aload_n (pc := 0) (i := 0) (tX3_init.at 0 rfl) rfl rfl ?_
  refine r_objInit (pc := 1) (tX3_init.at 1 rfl) ml_X3_3 oi_inst oi_code (Nat.le_of_ble_eq_true rfl) (Nat.le_of_ble_eq_true rfl) ?_
  refine r_aload_n (pc := 4) (i := 0) (tX3_init.at 2 rfl) rfl rfl ?_
  refine r_iconst (pc := 5) (w := nI 0) (tX3_init.at 3 rfl) (by decide) ?_
  refine r_put (pc := 6) (tX3_init.at 4 rfl) pf_X3_9 (hg) (Nat.le_of_ble_eq_true rfl) (rfl) (rfl) ?_
  refine r_aload_n (pc := 9) (i := 0) (tX3_init.at 5 rfl) rfl rfl ?_
  refine r_iconst (pc := 10) (w := nI 0) (tX3_init.at 6 rfl) (by decide) ?_
  refine r_put (pc := 11) (tX3_init.at 7 rfl) pf_X3_15 (e0 _ _) (Nat.le_of_ble_eq_true rfl) (rfl) (rfl) ?_
  refine r_aload_n (pc := 14) (i := 0) (tX3_init.at 8 rfl) rfl rfl ?_
  refine r_iconst (pc := 15) (w := nI 0) (tX3_init.at 9 rfl) (by decide) ?_
  refine r_put (pc := 16) (tX3_init.at 10 rfl) pf_X3_18 (e0 _ _) (Nat.le_of_ble_eq_true rfl) (rfl) (rfl) ?_
  refine r_aload_n (pc := 19) (i := 0) (tX3_init.at 11 rfl) rfl rfl ?_
  refine r_iconst (pc := 20) (w := nI 0) (tX3_init.at 12 rfl) (by decide) ?_
  refine r_put (pc := 21) (tX3_init.at 13 rfl) pf_X3_21 (e0 _ _) (Nat.le_of_ble_eq_true rfl) (rfl) (rfl) ?_
  refine r_aload_n (pc := 24) (i := 0) (tX3_init.at 14 rfl) rfl rfl ?_
  refine r_bipush (pc := 25) (w := nI 15) (tX3_init.at 15 rfl) (by decide) ?_
  refine r_newaI (pc := 27) (15) (tX3_init.at 16 rfl) (rfl) (Nat.le_of_ble_eq_true rfl) ac_int (Nat.le_of_ble_eq_true rfl) (Nat.le_of_ble_eq_true rfl) (fun fr27 => ?_)
  refine r_putF (pc := 29) (tX3_init.at 17 rfl) pff_X3_24 rfl (e1 _ 0 _ _) (Nat.le_of_ble_eq_true rfl) rfl rfl ?_
  refine r_aload_n (pc := 32) (i := 0) (tX3_init.at 18 rfl) rfl rfl ?_
  refine r_bipush (pc := 33) (w := nI 15) (tX3_init.at 19 rfl) (by decide) ?_
  refine r_newaI (pc := 35) (15) (tX3_init.at 20 rfl) (rfl) (Nat.le_of_ble_eq_true rfl) ac_int (Nat.le_of_ble_eq_true rfl) (Nat.le_of_ble_eq_true rfl) (fun fr35 => ?_)
  refine r_putF (pc := 37) (tX3_init.at 21 rfl) pff_X3_28 rfl (e1 _ 1 _ _) (Nat.le_of_ble_eq_true rfl) rfl rfl ?_
  refine r_aload_n (pc := 40) (i := 0) (tX3_init.at 22 rfl) rfl rfl ?_
  refine r_bipush (pc := 41) (w := nI 36) (tX3_init.at 23 rfl) (by decide) ?_
  refine r_newaI (pc := 43) (36) (tX3_init.at 24 rfl) (rfl) (Nat.le_of_ble_eq_true rfl) ac_int (Nat.le_of_ble_eq_true rfl) (Nat.le_of_ble_eq_true rfl) (fun fr43 => ?_)
  refine r_putF (pc := 45) (tX3_init.at 25 rfl) pff_X3_31 rfl (e1 _ 2 _ _) (Nat.le_of_ble_eq_true rfl) rfl rfl ?_
  refine r_aload_n (pc := 48) (i := 0) (tX3_init.at 26 rfl) rfl rfl ?_
  refine r_bipush (pc := 49) (w := nI 6) (tX3_init.at 27 rfl) (by decide) ?_
  refine r_newaI (pc := 51) (6) (tX3_init.at 28 rfl) (rfl) (Nat.le_of_ble_eq_true rfl) ac_int (Nat.le_of_ble_eq_true rfl) (Nat.le_of_ble_eq_true rfl) (fun fr51 => ?_)
  refine r_putF (pc := 53) (tX3_init.at 29 rfl) pff_X3_34 rfl (e1 _ 3 _ _) (Nat.le_of_ble_eq_true rfl) rfl rfl ?_
  refine r_aload_n (pc := 56) (i := 0) (tX3_init.at 30 rfl) rfl rfl ?_
  refine r_bipush (pc := 57) (w := nI 6) (tX3_init.at 31 rfl) (by decide) ?_
  refine r_newaI (pc := 59) (6) (tX3_init.at 32 rfl) (rfl) (Nat.le_of_ble_eq_true rfl) ac_int (Nat.le_of_ble_eq_true rfl) (Nat.le_of_ble_eq_true rfl) (fun fr59 => ?_)
  refine r_putF (pc := 61) (tX3_init.at 33 rfl) pff_X3_37 rfl (e1 _ 4 _ _) (Nat.le_of_ble_eq_true rfl) rfl rfl ?_
  refine r_aload_n (pc := 64) (i := 0) (tX3_init.at 34 rfl) rfl rfl ?_
  refine r_getCost (pc := 65) (tX3_init.at 35 rfl) fn_X3_40 ?_
  refine r_put (pc := 68) (tX3_init.at 36 rfl) pf_X3_43 (e0 _ _) (Nat.le_of_ble_eq_true rfl) (rfl) (rfl) ?_
  refine r_vret (pc := 71) (tX3_init.at 37 rfl) rfl (Nat.le_of_ble_eq_true rfl) (Nat.le_of_ble_eq_true rfl) ?_
  refine ⟨rfl, (gH_ext ?_ ?_).symm, rfl⟩
  · refine ⟨?_, ?_, ?_, ?_, ?_, ?_⟩ <;> (simp [hp]; rfl)
  · intro q hq
    simp [hp, show q ≠ g by omega, show q ≠ g + 1 by omega, show q ≠ g + 1 + 1 by omega, show q ≠ g + 1 + 1 + 1 by omega, show q ≠ g + 1 + 1 + 1 + 1 by omega, show q ≠ g + 1 + 1 + 1 + 1 + 1 by omega]
def kA (q i : Nat) : Nat := q + 2 + 6 * i
def kF (q n : Nat) : Nat → Option Nat := fun j => if j < n then some (kA q j) else none
def hE (q p c : Nat) : va_E := ob 4 [.ref (q + 1), .int (nI p), .int (nI c)]
/-- the graphs kept -/
def hiG (v : Ev) (h : Hp) (q : Nat) : Nat → Hp
  | 0 => h
  | i + 1 => gH v (hiG v h q i) (kA q i) (G0 v)
theorem hiG_out (v : Ev) (h : Hp) (q : Nat) : ∀ (i a : Nat), (a < q + 2 ∨ q + 2 + 6 * i ≤ a) → hiG v h q i a = h a
  | 0, _, _ => rfl
  | i + 1, a, ha => by
    rw [hiG, gH_out _ _ _ _ (by unfold kA; omega)]
    exact hiG_out v h q i a (by omega)
theorem hiG_is (v : Ev) (h : Hp) (q : Nat) : ∀ (i j : Nat), j < i → isG v (hiG v h q i) (kA q j) (G0 v)
  | i + 1, j, hj => by
    rw [hiG]
    by_cases h1 : j = i
    · subst h1
      exact gH_is _ _ _ _
    · exact (hiG_is v h q i j (by omega)).frame (fun a h2 h3 => gH_out _ _ _ _ (by unfold kA at *; omega))
def isHi (v : Ev) (h : Hp) (q p c : Nat) (Ks : Nat → GT) : Prop := h q = some (hE q p c) ∧ h (q + 1) = some (aG v 8 (kF q 8)) ∧ ∀ i, i < 8 → isG v h (kA q i) (Ks i)
/-- the heap behind the constructor -/
def hiH (v : Ev) (h : Hp) (q : Nat) : Hp := hp (hiG v (hp h q (hE q 0 0)) q 8) (q + 1) (aG v 8 (kF q 8))
theorem hiH_is (v : Ev) (h : Hp) (q : Nat) : isHi v (hiH v h q) q 0 0 (fun _ => G0 v) := by
  refine ⟨?_, hp_eq _ _ _, fun i hi => ?_⟩
  · unfold hiH
    rw [hp_ne _ _ (by omega), hiG_out _ _ _ _ _ (by omega), hp_eq]
  · exact (hiG_is v _ q 8 i hi).put (by unfold kA; omega)
theorem hiH_out {v : Ev} {h : Hp} {q a : Nat} (ha : a < q ∨ q + 50 ≤ a) : hiH v h q a = h a := by
  unfold hiH
  rw [hp_ne _ _ (by omega), hiG_out _ _ _ _ _ (by omega), hp_ne _ _ (by omega)]
theorem kF_s (q i : Nat) : va_up (kF q i) i (some (kA q i)) = kF q (i + 1) := by
  funext j
  unfold va_up kF
  by_cases h1 : j = i
  · rw [if_pos h1, if_pos (by omega), h1]
  · rw [if_neg h1]
    by_cases h2 : j < i
    · rw [if_pos h2, if_pos (by omega)]
    · rw [if_neg h2, if_neg (by omega)]
theorem c_hInit {v : Ev} {h : Hp} {q : Nat} (hq : h q = some (ob 4 [.null, .int 0, .int 0])) : Cal v mX4_init 2 49 712 [.ref q] h (q + 1) (pT (hiH v h q) (q + 50)) noX := by
  refine Cal.ofJ (by decide +kernel) rfl (Nat.le_of_ble_eq_true rfl) fun hz0 => ?_
  refine r_ls [some (.ref q), none] rfl ?_
  refine r_aload_n (pc := 0) (i := 0) (tX4_init.at 0 rfl) rfl rfl ?_
  refine r_objInit (pc := 1) (tX4_init.at 1 rfl) ml_X4_3 oi_inst oi_code (Nat.le_of_ble_eq_true rfl) (Nat.le_of_ble_eq_true rfl) ?_
  refine r_aload_n (pc := 4) (i := 0) (tX4_init.at 2 rfl) rfl rfl ?_
  refine r_bipush (pc := 5) (w := nI 8) (tX4_init.at 3 rfl) (by decide) ?_
  refine r_anewG (pc := 7) 8 (tX4_init.at 4 rfl) rfl (by omega) kl_X4_9 (Nat.le_of_ble_eq_true rfl) (Nat.le_of_ble_eq_true rfl) (fun _ => ?_)
  refine r_putF (pc := 10) (tX4_init.at 5 rfl) pff_X4_11 rfl ((hp_ne _ _ (by omega)).trans hq) (Nat.le_of_ble_eq_true rfl) rfl rfl ?_
  refine r_aload_n (pc := 13) (i := 0) (tX4_init.at 6 rfl) rfl rfl ?_
  refine r_iconst (pc := 14) (w := nI 0) (tX4_init.at 7 rfl) (by decide) ?_
  refine r_put (pc := 15) (tX4_init.at 8 rfl) pf_X4_17 (hp_eq _ _ _) (Nat.le_of_ble_eq_true rfl) (rfl) (rfl) ?_
  refine r_aload_n (pc := 18) (i := 0) (tX4_init.at 9 rfl) rfl rfl ?_
  refine r_iconst (pc := 19) (w := nI 0) (tX4_init.at 10 rfl) (by decide) ?_
  refine r_put (pc := 20) (tX4_init.at 11 rfl) pf_X4_21 (hp_eq _ _ _) (Nat.le_of_ble_eq_true rfl) (rfl) (rfl) ?_
  refine r_iconst (pc := 23) (w := nI 0) (tX4_init.at 12 rfl) (by decide) ?_
  refine r_istore_n (pc := 24) (i := 1) (tX4_init.at 13 rfl) rfl (by decide) ?_
  refine r_eq (h2 := hp (hiG v (hp h q (hE q 0 0)) q 0) (q + 1) (aG v 8 (kF q 0))) (by
    funext a
    simp only [hiG, hp]
    by_cases h1 : a = q
    · simp [h1]
      rfl
    · by_cases h2 : a = q + 1
      · simp [h2]
        rfl
      · simp [h1, h2]) rfl ?_
  refine r_widen (c2 := 1 + 6 * 0) (s2 := 8 + 88 * 0) (by omega) (by omega) ?_
  have key : ∀ m i, i + m = 8 → J v mX4_init (rmOf 2 49 712) (KM v (pT (hiH v h q) (q + 50)) noX 49 712) (q + 1) (1 + 6 * i) (8 + 88 * i) (hp (hiG v (hp h q (hE q 0 0)) q i) (q + 1) (aG v 8 (kF q i))) (q + 2 + 6 * i) 25 [some (.ref q), some (.int (nI i))] [] := by
    intro m
    induction m with
    | zero =>
      intro i hi
      have hi : i = 8 := by omega
      subst hi
      refine r_iload_n (pc := 25) (i := 1) (tX4_init.at 14 rfl) rfl rfl ?_
      refine r_bipush (pc := 26) (w := nI 8) (tX4_init.at 15 rfl) (by decide) ?_
      refine r_icmp_geN (pc := 28) 50 (tX4_init.at 16 rfl) (by decide) (by omega) (by omega) (fun _ => ?_) (fun c => by omega)
      refine r_vret (pc := 50) (tX4_init.at 26 rfl) rfl (Nat.le_of_ble_eq_true rfl) (Nat.le_of_ble_eq_true rfl) ?_
      exact ⟨rfl, rfl, rfl⟩
    | succ m ih =>
      intro i hi
      have hqa : hp (hiG v (hp h q (hE q 0 0)) q i) (q + 1) (aG v 8 (kF q i)) q = some (hE q 0 0) := by
        rw [hp_ne _ _ (by omega), hiG_out _ _ _ _ _ (by omega), hp_eq]
      refine r_iload_n (pc := 25) (i := 1) (tX4_init.at 14 rfl) rfl rfl ?_
      refine r_bipush (pc := 26) (w := nI 8) (tX4_init.at 15 rfl) (by decide) ?_
      refine r_icmp_geN (pc := 28) 50 (tX4_init.at 16 rfl) (by decide) (by omega) (by omega) (fun c => by omega) (fun _ => ?_)
      refine r_aload_n (pc := 31) (i := 0) (tX4_init.at 17 rfl) rfl rfl ?_
      refine r_get (pc := 32) (tX4_init.at 18 rfl) gf_X4_11 (hqa) rfl ?_
      refine r_iload_n (pc := 35) (i := 1) (tX4_init.at 19 rfl) rfl rfl ?_
      refine r_new (pc := 36) (tX4_init.at 20 rfl) nw_X4_9 (by show 1 + 6 * i + 1 ≤ 49; omega) (by show 8 + 88 * i + 10 ≤ 712; omega) (fun _ => ?_)
      refine r_dup (pc := 39) (tX4_init.at 21 rfl) rfl ?_
      refine r_callI (M' := mX3_init) (pc := 40) (tX4_init.at 22 rfl) (Or.inr ⟨_, mn_X4_24⟩) rfl rfl mw_X3_init ⟨by decide, by decide⟩ (c_gInit (g := q + 2 + 6 * i) (hp_eq _ _ _)) rfl rfl (Nat.le_of_ble_eq_true rfl) (by show 1 + 6 * i + 1 + 5 ≤ 49; omega) (by show 8 + 88 * i + 10 + 78 ≤ 712; omega) ?_
      rintro _ _ _ ⟨rfl, rfl, rfl⟩
      have hA : gH v (hp (hp (hiG v (hp h q (hE q 0 0)) q i) (q + 1) (aG v 8 (kF q i))) (q + 2 + 6 * i) (ob 3 gNew)) (q + 2 + 6 * i) (G0 v) (q + 1) = some (aG v 8 (kF q i)) := by
        rw [gH_out _ _ _ _ (by omega), hp_ne _ _ (by omega), hp_eq]
      refine r_aast (pc := 43) (tX4_init.at 23 rfl) hA (gH_is v _ (q + 2 + 6 * i) (G0 v)).1 i rfl (by omega) (by omega) ?_
      rw [show some (q + 2 + 6 * i) = some (kA q i) from rfl, kF_s]
      first | refine r_iincN (pc := 44) (tX4_init.at 24 rfl) rfl (by decide) ?_ | refine r_iinc (pc := 44) (tX4_init.at 24 rfl) rfl rfl (by decide) ?_
      refine r_goto (pc := 47) 25 (tX4_init.at 25 rfl) (by decide) ?_
      refine r_widen (c2 := 1 + 6 * (i + 1)) (s2 := 8 + 88 * (i + 1)) (by omega) (by omega) ?_
      refine r_eq ?_ rfl (ih (i + 1) (by omega))
      funext a
      rw [hiG]
      by_cases h1 : a = q + 1
      · subst h1
        rw [hp_eq, hp_eq]
      · rw [hp_ne _ _ h1, hp_ne _ _ h1]
        by_cases h2 : q + 2 + 6 * i ≤ a ∧ a < q + 2 + 6 * i + 6
        · unfold gH
          rw [if_pos h2, if_pos (show kA q i ≤ a ∧ a < kA q i + 6 from h2)]
          rfl
        · rw [gH_out _ _ _ _ (by omega), gH_out _ _ _ _ (by unfold kA; omega), hp_ne _ _ (by omega), hp_ne _ _ h1]
  exact key 8 0 (by omega)
theorem irem_nI {a d : Nat} (ha : a < 2147483648) (h0 : 0 < d) (hd : d < 2147483648) : nI a - nI a / nI d * nI d = nI (a % d) := pk_rem ha h0 hd
theorem kF_8 {q p : Nat} (hp8 : p < 8) : va_rf (kF q 8 p) = .ref (kA q p) := by
  unfold kF
  rw [if_pos hp8]
  rfl
theorem c_keep {v : Ev} {h : Hp} {top q p c g : Nat} {Ks : Nat → GT} {X : GT} (hh : isHi v h q p c Ks) (hp8 : p < 8) (hc8 : c ≤ 8) (hx : isG v h g X) (hd : g + 6 ≤ q ∨ q + 50 ≤ g) : Cal v mX4_keep 3 0 0 [.ref q, .ref g] h top (pV (hp (gH v h (kA q p) ((Ks p).cop X)) q (hE q ((p + 1) % 8) (min (c + 1) 8))) top) noX := by
  obtain ⟨h0, h1, h2⟩ := hh
  have hk := h2 p hp8
  have hself := gH_self hk
  refine Cal.ofJ (by decide +kernel) rfl (Nat.le_of_ble_eq_true rfl) fun hz0 => ?_
  refine r_ls [some (.ref q), some (.ref g)] rfl ?_
  refine r_aload_n (pc := 0) (i := 0) (tX4_keep.at 0 rfl) rfl rfl ?_
  refine r_get (pc := 1) (tX4_keep.at 1 rfl) gf_X4_11 (h0) rfl ?_
  refine r_aload_n (pc := 4) (i := 0) (tX4_keep.at 2 rfl) rfl rfl ?_
  refine r_get (pc := 5) (tX4_keep.at 3 rfl) gf_X4_17 (h0) rfl ?_
  refine r_aald (pc := 8) (tX4_keep.at 4 rfl) h1 p rfl hp8 (by omega) ?_
  rw [kF_8 hp8]
  have cc := c_copy (v := v) (h := h) (top := top) (g := kA q p) (o := g) (G := Ks p) (X := X) hx (by unfold kA; omega)
  rw [hself] at cc
  refine r_aload_n (pc := 9) (i := 1) (tX4_keep.at 5 rfl) rfl rfl ?_
  refine r_callV (M' := mX3_copyFrom) (pc := 10) (tX4_keep.at 6 rfl) ml_X4_25 rfl mw_X3_copyFrom ⟨by decide, by decide⟩ (hk.1) rfl rfl (cc) rfl rfl (Nat.le_of_ble_eq_true rfl) (Nat.le_of_ble_eq_true rfl) (Nat.le_of_ble_eq_true rfl) ?_
  rintro _ _ _ ⟨rfl, rfl, rfl⟩
  have e0 : gH v h (kA q p) ((Ks p).cop X) q = some (hE q p c) := by rw [gH_out _ _ _ _ (by unfold kA; omega)]; exact h0
  refine r_aload_n (pc := 13) (i := 0) (tX4_keep.at 7 rfl) rfl rfl ?_
  refine r_aload_n (pc := 14) (i := 0) (tX4_keep.at 8 rfl) rfl rfl ?_
  refine r_get (pc := 15) (tX4_keep.at 9 rfl) gf_X4_17 (e0) rfl ?_
  refine r_iconst (pc := 18) (w := nI 1) (tX4_keep.at 10 rfl) (by decide) ?_
  first | refine r_iaddN (pc := 19) (tX4_keep.at 11 rfl) ?_ | refine r_iadd (pc := 19) (tX4_keep.at 11 rfl) ?_
  refine r_bipush (pc := 20) (w := nI 8) (tX4_keep.at 12 rfl) (by decide) ?_
  refine r_irem (pc := 22) (tX4_keep.at 13 rfl) (by decide) ?_
  rw [irem_nI (by omega) (by omega) (by omega)]
  refine r_put (pc := 23) (tX4_keep.at 14 rfl) pf_X4_17 (e0) (Nat.le_of_ble_eq_true rfl) (rfl) (rfl) ?_
  refine r_aload_n (pc := 26) (i := 0) (tX4_keep.at 15 rfl) rfl rfl ?_
  refine r_aload_n (pc := 27) (i := 0) (tX4_keep.at 16 rfl) rfl rfl ?_
  refine r_get (pc := 28) (tX4_keep.at 17 rfl) gf_X4_21 (hp_eq _ _ _) rfl ?_
  refine r_iconst (pc := 31) (w := nI 1) (tX4_keep.at 18 rfl) (by decide) ?_
  first | refine r_iaddN (pc := 32) (tX4_keep.at 19 rfl) ?_ | refine r_iadd (pc := 32) (tX4_keep.at 19 rfl) ?_
  refine r_bipush (pc := 33) (w := nI 8) (tX4_keep.at 20 rfl) (by decide) ?_
  first | refine r_mminN (pc := 35) (tX4_keep.at 21 rfl) ml_X4_29 mw_min_s mw_math mw_min_c (Nat.le_of_ble_eq_true rfl) (Nat.le_of_ble_eq_true rfl) (Nat.le_of_ble_eq_true rfl) (Nat.le_of_ble_eq_true rfl) (by omega) (by omega) ?_ | refine r_mminZ (pc := 35) (tX4_keep.at 21 rfl) ml_X4_29 mw_min_s mw_math mw_min_c (Nat.le_of_ble_eq_true rfl) (Nat.le_of_ble_eq_true rfl) (Nat.le_of_ble_eq_true rfl) (Nat.le_of_ble_eq_true rfl) (by omega) (by omega) ?_ | refine r_mmin (pc := 35) (tX4_keep.at 21 rfl) ml_X4_29 mw_min_s mw_math mw_min_c (Nat.le_of_ble_eq_true rfl) (Nat.le_of_ble_eq_true rfl) (Nat.le_of_ble_eq_true rfl) (Nat.le_of_ble_eq_true rfl) ?_
  refine r_put (pc := 38) (tX4_keep.at 22 rfl) pf_X4_21 (hp_eq _ _ _) (Nat.le_of_ble_eq_true rfl) (rfl) (rfl) ?_
  rw [hp_hp]
  refine r_vret (pc := 41) (tX4_keep.at 23 rfl) rfl (Nat.le_of_ble_eq_true rfl) (Nat.le_of_ble_eq_true rfl) ?_
  exact ⟨rfl, rfl, rfl⟩
theorem c_restore {v : Ev} {h : Hp} {top q p c g : Nat} {Ks : Nat → GT} {X : GT} (hh : isHi v h q p c Ks) (hp8 : p < 8) (hc8 : c ≤ 8) (hx : isG v h g X) (hd : g + 6 ≤ q ∨ q + 50 ≤ g) : Cal v mX4_restore 3 0 0 [.ref q, .ref g] h top (fun r h' top' => top = top' ∧ if c = 0 then r = some (.int (zI (-1))) ∧ h = h' else r = some (.int (nI (c - 1))) ∧ gH v (hp h q (hE q ((p + 7) % 8) (c - 1))) g (X.cop (Ks ((p + 7) % 8))) = h') noX := by
  obtain ⟨h0, h1, h2⟩ := hh
  refine Cal.ofJ (by decide +kernel) rfl (Nat.le_of_ble_eq_true rfl) fun hz0 => ?_
  refine r_ls [some (.ref q), some (.ref g)] rfl ?_
  refine r_aload_n (pc := 0) (i := 0) (tX4_restore.at 0 rfl) rfl rfl ?_
  refine r_get (pc := 1) (tX4_restore.at 1 rfl) gf_X4_21 (h0) rfl ?_
  refine r_if_neN (pc := 4) 9 (tX4_restore.at 2 rfl) (by decide) (by omega) (fun c0 => ?_) (fun c0 => ?_)
  · refine r_aload_n (pc := 9) (i := 0) (tX4_restore.at 5 rfl) rfl rfl ?_
    refine r_aload_n (pc := 10) (i := 0) (tX4_restore.at 6 rfl) rfl rfl ?_
    refine r_get (pc := 11) (tX4_restore.at 7 rfl) gf_X4_17 (h0) rfl ?_
    refine r_bipush (pc := 14) (w := nI 8) (tX4_restore.at 8 rfl) (by decide) ?_
    first | refine r_iaddN (pc := 16) (tX4_restore.at 9 rfl) ?_ | refine r_iadd (pc := 16) (tX4_restore.at 9 rfl) ?_
    refine r_iconst (pc := 17) (w := nI 1) (tX4_restore.at 10 rfl) (by decide) ?_
    refine r_isub (pc := 18) (tX4_restore.at 11 rfl) ?_
    rw [show nI (p + 8) - nI 1 = nI (p + 7) from nI_subZ (a := p + 8) (b := 1) (by omega)]
    refine r_bipush (pc := 19) (w := nI 8) (tX4_restore.at 12 rfl) (by decide) ?_
    refine r_irem (pc := 21) (tX4_restore.at 13 rfl) (by decide) ?_
    rw [irem_nI (by omega) (by omega) (by omega)]
    refine r_put (pc := 22) (tX4_restore.at 14 rfl) pf_X4_17 (h0) (Nat.le_of_ble_eq_true rfl) (rfl) (rfl) ?_
    refine r_aload_n (pc := 25) (i := 0) (tX4_restore.at 15 rfl) rfl rfl ?_
    refine r_dup (pc := 26) (tX4_restore.at 16 rfl) rfl ?_
    refine r_get (pc := 27) (tX4_restore.at 17 rfl) gf_X4_21 (hp_eq _ _ _) rfl ?_
    refine r_iconst (pc := 30) (w := nI 1) (tX4_restore.at 18 rfl) (by decide) ?_
    refine r_isub (pc := 31) (tX4_restore.at 19 rfl) ?_
    rw [show nI c - nI 1 = nI (c - 1) from nI_subZ (a := c) (b := 1) (by omega)]
    refine r_put (pc := 32) (tX4_restore.at 20 rfl) pf_X4_21 (hp_eq _ _ _) (Nat.le_of_ble_eq_true rfl) (rfl) (rfl) ?_
    rw [hp_hp]
    have h8 : (p + 7) % 8 < 8 := Nat.mod_lt _ (by omega)
    refine r_eq (h2 := hp h q (hE q ((p + 7) % 8) (c - 1))) rfl rfl ?_
    refine r_aload_n (pc := 35) (i := 1) (tX4_restore.at 21 rfl) rfl rfl ?_
    refine r_aload_n (pc := 36) (i := 0) (tX4_restore.at 22 rfl) rfl rfl ?_
    refine r_get (pc := 37) (tX4_restore.at 23 rfl) gf_X4_11 (hp_eq _ _ _) rfl ?_
    refine r_aload_n (pc := 40) (i := 0) (tX4_restore.at 24 rfl) rfl rfl ?_
    refine r_get (pc := 41) (tX4_restore.at 25 rfl) gf_X4_17 (hp_eq _ _ _) rfl ?_
    refine r_aald (pc := 44) (tX4_restore.at 26 rfl) ((hp_ne _ _ (by omega)).trans h1) ((p + 7) % 8) rfl h8 (by omega) ?_
    rw [kF_8 h8]
    have hx2 : isG v (hp h q (hE q ((p + 7) % 8) (c - 1))) g X := hx.put (by omega)
    have hk2 : isG v (hp h q (hE q ((p + 7) % 8) (c - 1))) (kA q ((p + 7) % 8)) (Ks ((p + 7) % 8)) := (h2 _ h8).put (by unfold kA; omega)
    have cc := c_copy (v := v) (h := hp h q (hE q ((p + 7) % 8) (c - 1))) (top := top) (g := g) (o := kA q ((p + 7) % 8)) (G := X) (X := Ks ((p + 7) % 8)) hk2 (by unfold kA; omega)
    rw [gH_self hx2] at cc
    refine r_callV (M' := mX3_copyFrom) (pc := 45) (tX4_restore.at 27 rfl) ml_X4_25 rfl mw_X3_copyFrom ⟨by decide, by decide⟩ (hx2.1) rfl rfl (cc) rfl rfl (Nat.le_of_ble_eq_true rfl) (Nat.le_of_ble_eq_true rfl) (Nat.le_of_ble_eq_true rfl) ?_
    rintro _ _ _ ⟨rfl, rfl, rfl⟩
    have e0 : gH v (hp h q (hE q ((p + 7) % 8) (c - 1))) g (X.cop (Ks ((p + 7) % 8))) q = some (hE q ((p + 7) % 8) (c - 1)) := by rw [gH_out _ _ _ _ (by omega), hp_eq]
    refine r_aload_n (pc := 48) (i := 0) (tX4_restore.at 28 rfl) rfl rfl ?_
    refine r_get (pc := 49) (tX4_restore.at 29 rfl) gf_X4_21 (e0) rfl ?_
    refine r_iret (pc := 52) (tX4_restore.at 30 rfl) rfl (Nat.le_of_ble_eq_true rfl) (Nat.le_of_ble_eq_true rfl) ?_
    exact ⟨rfl, by rw [if_neg c0]; exact ⟨rfl, rfl⟩⟩
  · refine r_iconst (pc := 7) (w := zI (-1)) (tX4_restore.at 3 rfl) (by decide) ?_
    refine r_iret (pc := 8) (tX4_restore.at 4 rfl) rfl (Nat.le_of_ble_eq_true rfl) (Nat.le_of_ble_eq_true rfl) ?_
    exact ⟨rfl, by rw [if_pos c0]; exact ⟨rfl, rfl⟩⟩
end
section
/-! ===== Costs ===== -/
section
variable {v : Ev} {M : Md} {R : Room} {K : List Frame → Array Value → State → State → Prop} {t0 cells slots : Nat} {h : Hp} {top pc : Nat} {ls : List (Option Value)} {st : List Value}
theorem r_iaddZ {a b : Int} (d : decode M.2.1 pc = .ok (.iadd, 1)) (k : J v M R K t0 cells slots h top (pc + 1) ls (.int (zI (a + b)) :: st)) : J v M R K t0 cells slots h top pc ls (.int (zI b) :: .int (zI a) :: st) := r_iadd d (by rw [zI_add]; exact k)
theorem r_isubZ {a b : Int} (d : decode M.2.1 pc = .ok (.isub, 1)) (k : J v M R K t0 cells slots h top (pc + 1) ls (.int (zI (a - b)) :: st)) : J v M R K t0 cells slots h top pc ls (.int (zI b) :: .int (zI a) :: st) := r_isub d (by rw [zI_sub]; exact k)
theorem r_isubN {a b : Nat} (d : decode M.2.1 pc = .ok (.isub, 1)) (hb : b ≤ a) (k : J v M R K t0 cells slots h top (pc + 1) ls (.int (nI (a - b)) :: st)) : J v M R K t0 cells slots h top pc ls (.int (nI b) :: .int (nI a) :: st) := r_isub d (by rw [nI_subZ hb]; exact k)
theorem r_imulZ {a b : Int} (d : decode M.2.1 pc = .ok (.imul, 1)) (k : J v M R K t0 cells slots h top (pc + 1) ls (.int (zI (a * b)) :: st)) : J v M R K t0 cells slots h top pc ls (.int (zI b) :: .int (zI a) :: st) := r_imul d (by rw [zI_mul]; exact k)
theorem r_inegZ {a : Int} (d : decode M.2.1 pc = .ok (.ineg, 1)) (k : J v M R K t0 cells slots h top (pc + 1) ls (.int (zI (-a)) :: st)) : J v M R K t0 cells slots h top pc ls (.int (zI a) :: st) := r_ineg d (by rw [zI_neg]; exact k)
theorem r_i2lZ {a : Int} (d : decode M.2.1 pc = .ok (.i2l, 1)) (ha : inI a) (k : J v M R K t0 cells slots h top (pc + 1) ls (.long (lI a) :: st)) : J v M R K t0 cells slots h top pc ls (.int (zI a) :: st) := r_i2l d (by rw [zI_toInt64 ha]; exact k)
theorem r_l2iZ {a : Int} (d : decode M.2.1 pc = .ok (.l2i, 1)) (k : J v M R K t0 cells slots h top (pc + 1) ls (.int (zI a) :: st)) : J v M R K t0 cells slots h top pc ls (.long (lI a) :: st) := r_l2i d (by rw [lI_toInt32Z]; exact k)
theorem r_idecN {i u : Nat} (d : decode M.2.1 pc = .ok (.iinc i (-1), 3)) (hi : ls[i]? = some (some (.int (nI (u + 1))))) (hl : i < M.2.2.1) (k : J v M R K t0 cells slots h top (pc + 3) (ls1 ls i (.int (nI u))) st) : J v M R K t0 cells slots h top pc ls st := r_iinc d hi (show nI (u + 1) + Int32.ofInt (-1) = nI u by rw [← zI_nat, show Int32.ofInt (-1) = zI (-1) from rfl, zI_add, ← zI_nat]; congr 1; omega) hl k
theorem r_mminLI {idx : Nat} {a b : Int} (d : decode M.2.1 pc = .ok (.invokestatic idx, 3)) (w1 : Cond.methodLink M.1.cls idx Lib.MathLoose.min_long.x ∈ big) (w2 : Cond.static Lib.MathLoose.min_long.x ∈ big) (w3 : Cond.initialized "java/lang/Math" ∈ big) (w4 : Cond.code Lib.MathLoose.min_long.x Lib.MathLoose.min_long.code 4 (some .long) ∈ big) (hf : 1 ≤ R.frames) (hl2 : (st.map fun w => w.category).sum + 15 ≤ R.locals) (hc : cells ≤ R.cells) (hs : slots ≤ R.slots) (ha : inL a) (hb : inL b) (kk : J v M R K t0 cells slots h top (pc + 3) ls (.long (lI (min a b)) :: st)) : J v M R K t0 cells slots h top pc ls (.long (lI b) :: .long (lI a) :: st) := by
  refine r_mminL d w1 w2 w3 w4 hf hl2 hc hs ?_
  by_cases q : b < a
  · rw [if_pos ((lI_lt hb ha).mpr q)]
    rw [Int.min_eq_right (by omega)] at kk
    exact kk
  · rw [if_neg (fun z => q ((lI_lt hb ha).mp z))]
    rw [Int.min_eq_left (by omega)] at kk
    exact kk
theorem r_mmaxLI {idx : Nat} {a b : Int} (d : decode M.2.1 pc = .ok (.invokestatic idx, 3)) (w1 : Cond.methodLink M.1.cls idx Lib.MathLoose.max_long.x ∈ big) (w2 : Cond.static Lib.MathLoose.max_long.x ∈ big) (w3 : Cond.initialized "java/lang/Math" ∈ big) (w4 : Cond.code Lib.MathLoose.max_long.x Lib.MathLoose.max_long.code 4 (some .long) ∈ big) (hf : 1 ≤ R.frames) (hl2 : (st.map fun w => w.category).sum + 15 ≤ R.locals) (hc : cells ≤ R.cells) (hs : slots ≤ R.slots) (ha : inL a) (hb : inL b) (kk : J v M R K t0 cells slots h top (pc + 3) ls (.long (lI (max a b)) :: st)) : J v M R K t0 cells slots h top pc ls (.long (lI b) :: .long (lI a) :: st) := by
  refine r_mmaxL d w1 w2 w3 w4 hf hl2 hc hs ?_
  by_cases q : b < a
  · rw [if_pos ((lI_lt hb ha).mpr q)]
    rw [Int.max_eq_left (by omega)] at kk
    exact kk
  · rw [if_neg (fun z => q ((lI_lt hb ha).mp z))]
    rw [Int.max_eq_right (by omega)] at kk
    exact kk
end
def sF (s : Nat → Int) : Nat → Int32 := fun i => zI (s i)
def upZ (f : Nat → Int) (i : Nat) (x : Int) : Nat → Int := fun k => if k = i then x else f k
theorem upZ_eq (f : Nat → Int) (i : Nat) (x : Int) : upZ f i x i = x := if_pos rfl
theorem upZ_ne (f : Nat → Int) {i k : Nat} (x : Int) (n : k ≠ i) : upZ f i x k = f k := if_neg n
theorem upd_sF (f : Nat → Int) (i : Nat) (x : Int) : upd (sF f) i (zI x) = sF (upZ f i x) := by
  funext k
  unfold upd sF upZ
  split <;> rfl
/-- codes of a cost: COST_ONE or a row of their own -/
def isCode (v : Ev) (h : Hp) (F n : Nat) (c : Nat → Int) : Prop := (F = oA v 0 ∧ n = 1 ∧ c 0 = 1) ∨ h F = some (aI v n (sF c))
theorem isCode.put {v : Ev} {h : Hp} {F n a : Nat} {e : va_E} {c : Nat → Int} (hc : isCode v h F n c) (ha : F ≠ a) : isCode v (hp h a e) F n c := hc.imp id (fun q => (hp_ne h e ha).trans q)
section
variable {v : Ev} {M : Md} {R : Room} {K : List Frame → Array Value → State → State → Prop} {t0 cells slots : Nat} {h : Hp} {top pc : Nat} {ls : List (Option Value)} {st : List Value}
theorem r_ialdC {F n : Nat} {c : Nat → Int} (d : decode M.2.1 pc = .ok (.iaload, 1)) (hc : isCode v h F n c) (i : Nat) (hi : i < n) (hN : n ≤ 2147483647) (kk : J v M R K t0 cells slots h top (pc + 1) ls (.int (zI (c i)) :: st)) : J v M R K t0 cells slots h top pc ls (.int (nI i) :: .ref F :: st) := by
  rcases hc with ⟨h1, h2, h3⟩ | h1
  · subst h1; subst h2
    have hi0 : i = 0 := by omega
    subst hi0
    rw [h3] at kk
    exact r_iald1 d rfl kk
  · exact r_iald d h1 i rfl hi hN kk
theorem r_alenC {F n : Nat} {c : Nat → Int} (d : decode M.2.1 pc = .ok (.arraylength, 1)) (hc : isCode v h F n c) (kk : J v M R K t0 cells slots h top (pc + 1) ls (.int (nI n) :: st)) : J v M R K t0 cells slots h top pc ls (.ref F :: st) := by
  rcases hc with ⟨h1, h2, h3⟩ | h1
  · subst h1; subst h2
    exact r_alen1 d kk
  · exact r_alenI d h1 kk
end
def clM (x : Int) : Int := max (-1000000) (min 1000000 x)
theorem clM_b (x : Int) : -1000000 ≤ clM x ∧ clM x ≤ 1000000 := by unfold clM; omega
def opI (c l r : Int) : Int := if c = -4 then l + r else if c = -5 then l - r else if c = -6 then l * r else if r = 0 then 0 else l.tdiv r
def opd (c w x y : Int) : Int := if c = -1 then w else if c = -2 then x else if c = -3 then y else c
theorem tdiv_b {l r B : Int} (h1 : -B ≤ l) (h2 : l ≤ B) : -B ≤ l.tdiv r ∧ l.tdiv r ≤ B := by
  have h3 : (l.tdiv r).natAbs ≤ l.natAbs := by rw [Int.natAbs_tdiv]; exact Nat.div_le_self _ _
  omega
theorem mul_b {l r B : Int} (h1 : -B ≤ l) (h2 : l ≤ B) (h3 : -B ≤ r) (h4 : r ≤ B) : -(B * B) ≤ l * r ∧ l * r ≤ B * B := by
  have h5 : (l * r).natAbs ≤ B.natAbs * B.natAbs := by rw [Int.natAbs_mul]; exact Nat.mul_le_mul (by omega) (by omega)
  have h6 : ((B.natAbs * B.natAbs : Nat) : Int) = B * B := by rw [Int.natCast_mul]; rw [show ((B.natAbs : Nat) : Int) = B by omega]
  omega
theorem c_opnd {v : Ev} {h : Hp} {top w x y : Nat} {c : Int} (hc : -7 ≤ c ∧ c ≤ 1000000) : Cal v mX0_operand 1 0 0 [.int (zI c), .int (nI w), .int (nI x), .int (nI y)] h top (pR (.int (zI (opd c w x y))) h top) noX := by
  refine Cal.ofJ (by decide +kernel) rfl (Nat.le_of_ble_eq_true rfl) fun hz0 => ?_
  refine r_ls [some (.int (zI c)), some (.int (nI w)), some (.int (nI x)), some (.int (nI y))] rfl ?_
  refine r_iload_n (pc := 0) (i := 0) (tX0_operand.at 0 rfl) rfl rfl ?_
  have ei : (zI c).toInt = c := zI_toInt ⟨by omega, by omega⟩
  by_cases h1 : c = -1
  · subst h1
    refine r_swIn (pc := 1) (off := 27) 28 (tX0_operand.at 1 rfl) (by decide) (by decide) (by decide) (by decide) ?_
    refine r_iload_n (pc := 28) (i := 1) (tX0_operand.at 2 rfl) rfl rfl ?_
    refine r_iret (pc := 29) (tX0_operand.at 3 rfl) rfl (Nat.le_of_ble_eq_true rfl) (Nat.le_of_ble_eq_true rfl) ?_
    exact ⟨by rw [← zI_nat]; rfl, rfl, rfl⟩
  by_cases h2 : c = -2
  · subst h2
    refine r_swIn (pc := 1) (off := 29) 30 (tX0_operand.at 1 rfl) (by decide) (by decide) (by decide) (by decide) ?_
    refine r_iload_n (pc := 30) (i := 2) (tX0_operand.at 4 rfl) rfl rfl ?_
    refine r_iret (pc := 31) (tX0_operand.at 5 rfl) rfl (Nat.le_of_ble_eq_true rfl) (Nat.le_of_ble_eq_true rfl) ?_
    exact ⟨by rw [← zI_nat]; rfl, rfl, rfl⟩
  by_cases h3 : c = -3
  · subst h3
    refine r_swIn (pc := 1) (off := 31) 32 (tX0_operand.at 1 rfl) (by decide) (by decide) (by decide) (by decide) ?_
    refine r_iload_n (pc := 32) (i := 3) (tX0_operand.at 6 rfl) rfl rfl ?_
    refine r_iret (pc := 33) (tX0_operand.at 7 rfl) rfl (Nat.le_of_ble_eq_true rfl) (Nat.le_of_ble_eq_true rfl) ?_
    exact ⟨by rw [← zI_nat]; rfl, rfl, rfl⟩
  refine r_swOut (pc := 1) 34 (tX0_operand.at 1 rfl) (by rw [ei]; omega) (by decide) ?_
  refine r_iload_n (pc := 34) (i := 0) (tX0_operand.at 8 rfl) rfl rfl ?_
  refine r_iret (pc := 35) (tX0_operand.at 9 rfl) rfl (Nat.le_of_ble_eq_true rfl) (Nat.le_of_ble_eq_true rfl) ?_
  exact ⟨by rw [opd, if_neg h1, if_neg h2, if_neg h3], rfl, rfl⟩
theorem c_opr {v : Ev} {h : Hp} {top : Nat} {c l r : Int} (hc : -7 ≤ c ∧ c ≤ -4) (hl : -1000000 ≤ l ∧ l ≤ 1000000) (hr : -1000000 ≤ r ∧ r ≤ 1000000) : Cal v mX0_operate 2 0 0 [.int (zI c), .long (lI l), .long (lI r)] h top (pR (.int (zI (clM (opI c l r)))) h top) noX := by
  have hm := mul_b hl.1 hl.2 hr.1 hr.2
  have hd := tdiv_b (r := r) hl.1 hl.2
  refine Cal.ofJ (by decide +kernel) rfl (Nat.le_of_ble_eq_true rfl) fun hz0 => ?_
  refine r_ls [some (.int (zI c)), some (.long (lI l)), none, some (.long (lI r)), none, none, none] rfl ?_
  have fin : ∀ z : Int, inL z → opI c l r = z → J v mX0_operate (rmOf 2 0 0) (KM v (pR (.int (zI (clM (opI c l r)))) h top) noX 0 0) top 0 0 h top 57 [some (.int (zI c)), some (.long (lI l)), none, some (.long (lI r)), none, some (.long (lI z)), none] [] := by
    intro z hz hq
    have hz1 := hz.1
    have hz2 := hz.2
    refine r_ldc2 (pc := 57) (tX0_operate.at 34 rfl) lcL_X0_67 ?_
    refine r_ldc2 (pc := 60) (tX0_operate.at 35 rfl) lcL_X0_69 ?_
    refine r_lload (pc := 63) (i := 5) (tX0_operate.at 36 rfl) rfl ?_
    first | refine r_mminLI (pc := 65) (tX0_operate.at 37 rfl) ml_X0_71 mw_minL_s mw_math mw_minL_c (Nat.le_of_ble_eq_true rfl) (Nat.le_of_ble_eq_true rfl) (Nat.le_of_ble_eq_true rfl) (Nat.le_of_ble_eq_true rfl) ⟨by omega, by omega⟩ ⟨by omega, by omega⟩ ?_ | refine r_mminL (pc := 65) (tX0_operate.at 37 rfl) ml_X0_71 mw_minL_s mw_math mw_minL_c (Nat.le_of_ble_eq_true rfl) (Nat.le_of_ble_eq_true rfl) (Nat.le_of_ble_eq_true rfl) (Nat.le_of_ble_eq_true rfl) ?_
    first | refine r_mmaxLI (pc := 68) (tX0_operate.at 38 rfl) ml_X0_74 mw_maxL_s mw_math mw_maxL_c (Nat.le_of_ble_eq_true rfl) (Nat.le_of_ble_eq_true rfl) (Nat.le_of_ble_eq_true rfl) (Nat.le_of_ble_eq_true rfl) ⟨by omega, by omega⟩ ⟨by omega, by omega⟩ ?_ | refine r_mmaxL (pc := 68) (tX0_operate.at 38 rfl) ml_X0_74 mw_maxL_s mw_math mw_maxL_c (Nat.le_of_ble_eq_true rfl) (Nat.le_of_ble_eq_true rfl) (Nat.le_of_ble_eq_true rfl) (Nat.le_of_ble_eq_true rfl) ?_
    first | refine r_l2iZ (pc := 71) (tX0_operate.at 39 rfl) ?_ | refine r_l2i (pc := 71) (tX0_operate.at 39 rfl) ?_
    refine r_iret (pc := 72) (tX0_operate.at 40 rfl) rfl (Nat.le_of_ble_eq_true rfl) (Nat.le_of_ble_eq_true rfl) ?_
    exact ⟨by rw [hq]; rfl, rfl, rfl⟩
  refine r_iload_n (pc := 0) (i := 0) (tX0_operate.at 0 rfl) rfl rfl ?_
  refine r_bipush (pc := 1) (w := zI (-4)) (tX0_operate.at 1 rfl) (by decide) ?_
  refine r_icmp_neZ (pc := 3) 14 (tX0_operate.at 2 rfl) (by decide) ⟨by omega, by omega⟩ ⟨by omega, by omega⟩ (fun c1 => ?_) (fun c1 => ?_)
  · refine r_iload_n (pc := 14) (i := 0) (tX0_operate.at 8 rfl) rfl rfl ?_
    refine r_bipush (pc := 15) (w := zI (-5)) (tX0_operate.at 9 rfl) (by decide) ?_
    refine r_icmp_neZ (pc := 17) 28 (tX0_operate.at 10 rfl) (by decide) ⟨by omega, by omega⟩ ⟨by omega, by omega⟩ (fun c2 => ?_) (fun c2 => ?_)
    · refine r_iload_n (pc := 28) (i := 0) (tX0_operate.at 16 rfl) rfl rfl ?_
      refine r_bipush (pc := 29) (w := zI (-6)) (tX0_operate.at 17 rfl) (by decide) ?_
      refine r_icmp_neZ (pc := 31) 42 (tX0_operate.at 18 rfl) (by decide) ⟨by omega, by omega⟩ ⟨by omega, by omega⟩ (fun c3 => ?_) (fun c3 => ?_)
      · refine r_lload_n (pc := 42) (i := 3) (tX0_operate.at 24 rfl) rfl rfl ?_
        refine r_lconst (pc := 43) (w := lI 0) (tX0_operate.at 25 rfl) (by decide) ?_
        refine r_lc_ne (pc := 44) 52 (tX0_operate.at 26 rfl) (tX0_operate.at 27 rfl) (by decide) (⟨by omega, by omega⟩) (⟨by omega, by omega⟩) (fun c4 => ?_) (fun c4 => ?_)
        · refine r_lload_n (pc := 52) (i := 1) (tX0_operate.at 30 rfl) rfl rfl ?_
          refine r_lload_n (pc := 53) (i := 3) (tX0_operate.at 31 rfl) rfl rfl ?_
          refine r_ldivL (pc := 54) (tX0_operate.at 32 rfl) (⟨by omega, by omega⟩) (⟨by omega, by omega⟩) (c4) ?_
          refine r_lstore (pc := 55) (i := 5) (tX0_operate.at 33 rfl) (by decide) ?_
          exact fin _ ⟨by omega, by omega⟩ (by rw [opI, if_neg c1, if_neg c2, if_neg c3, if_neg c4])
        · refine r_lconst (pc := 48) (w := lI 0) (tX0_operate.at 28 rfl) (by decide) ?_
          refine r_goto (pc := 49) 55 (tX0_operate.at 29 rfl) (by decide) ?_
          refine r_lstore (pc := 55) (i := 5) (tX0_operate.at 33 rfl) (by decide) ?_
          exact fin _ ⟨by omega, by omega⟩ (by rw [opI, if_neg c1, if_neg c2, if_neg c3, if_pos c4])
      · refine r_lload_n (pc := 34) (i := 1) (tX0_operate.at 19 rfl) rfl rfl ?_
        refine r_lload_n (pc := 35) (i := 3) (tX0_operate.at 20 rfl) rfl rfl ?_
        first | refine r_lmulL (pc := 36) (tX0_operate.at 21 rfl) ?_ | refine r_lmul (pc := 36) (tX0_operate.at 21 rfl) ?_
        refine r_lstore (pc := 37) (i := 5) (tX0_operate.at 22 rfl) (by decide) ?_
        refine r_goto (pc := 39) 57 (tX0_operate.at 23 rfl) (by decide) ?_
        exact fin _ ⟨by omega, by omega⟩ (by rw [opI, if_neg c1, if_neg c2, if_pos c3])
    · refine r_lload_n (pc := 20) (i := 1) (tX0_operate.at 11 rfl) rfl rfl ?_
      refine r_lload_n (pc := 21) (i := 3) (tX0_operate.at 12 rfl) rfl rfl ?_
      first | refine r_lsubL (pc := 22) (tX0_operate.at 13 rfl) ?_ | refine r_lsub (pc := 22) (tX0_operate.at 13 rfl) ?_
      refine r_lstore (pc := 23) (i := 5) (tX0_operate.at 14 rfl) (by decide) ?_
      refine r_goto (pc := 25) 57 (tX0_operate.at 15 rfl) (by decide) ?_
      exact fin _ ⟨by omega, by omega⟩ (by rw [opI, if_neg c1, if_pos c2])
  · refine r_lload_n (pc := 6) (i := 1) (tX0_operate.at 3 rfl) rfl rfl ?_
    refine r_lload_n (pc := 7) (i := 3) (tX0_operate.at 4 rfl) rfl rfl ?_
    first | refine r_laddL (pc := 8) (tX0_operate.at 5 rfl) ?_ | refine r_ladd (pc := 8) (tX0_operate.at 5 rfl) ?_
    refine r_lstore (pc := 9) (i := 5) (tX0_operate.at 6 rfl) (by decide) ?_
    refine r_goto (pc := 11) 57 (tX0_operate.at 7 rfl) (by decide) ?_
    exact fin _ ⟨by omega, by omega⟩ (by rw [opI, if_pos c1])
def evS (w x y c : Int) (L : List Int) : List Int :=
  if -4 < c then (if L.length < 16 then opd c w x y :: L else L)
  else match L with
    | r :: l :: t => clM (opI c l r) :: t
    | _ => L
theorem evS_op {w x y c r l : Int} {t : List Int} (h : c ≤ -4) : evS w x y c (r :: l :: t) = clM (opI c l r) :: t := by
  unfold evS
  rw [if_neg (by omega)]
theorem evS_sm {w x y c : Int} {L : List Int} (h : c ≤ -4) (h2 : L.length < 2) : evS w x y c L = L := by
  unfold evS
  rw [if_neg (by omega)]
  rcases L with _ | ⟨r, _ | ⟨l, t⟩⟩
  · rfl
  · rfl
  · exact absurd h2 (by simp)
theorem evS_no {w x y c : Int} {L : List Int} (h : -4 < c) (h2 : 16 ≤ L.length) : evS w x y c L = L := by
  unfold evS
  rw [if_pos h, if_neg (by omega)]
theorem evS_pu {w x y c : Int} {L : List Int} (h : -4 < c) (h2 : L.length < 16) : evS w x y c L = opd c w x y :: L := by
  unfold evS
  rw [if_pos h, if_pos h2]
def evL (w x y : Int) (c : Nat → Int) : Nat → List Int
  | 0 => []
  | k + 1 => evS w x y (c k) (evL w x y c k)
def evV (L : List Int) : Int := (L.reverse[0]?).getD 0
def stk (s : Nat → Int) (L : List Int) : Prop := ∀ (i : Nat) (x : Int), L.reverse[i]? = some x → s i = x
def bdS (s : Nat → Int) : Prop := ∀ i, -1000000 ≤ s i ∧ s i ≤ 1000000
theorem stk_push {s : Nat → Int} {L : List Int} (h : stk s L) (x : Int) : stk (upZ s L.length x) (x :: L) := by
  intro i y hy
  rw [List.reverse_cons, List.getElem?_append] at hy
  split at hy
  · next h1 =>
    rw [List.length_reverse] at h1
    rw [upZ_ne _ _ (by omega)]
    exact h i y hy
  · next h1 =>
    rw [List.length_reverse] at h1 hy
    have h2 : i - L.length = 0 := by
      rcases Nat.eq_zero_or_pos (i - L.length) with q | q
      · exact q
      · rw [List.getElem?_eq_none (by simp; omega)] at hy
        cases hy
    rw [h2] at hy
    have h3 : i = L.length := by omega
    rw [h3, upZ_eq]
    exact Option.some.inj hy
theorem stk_top {s : Nat → Int} {L : List Int} {x : Int} (h : stk s (x :: L)) : s L.length = x := h L.length x (by rw [List.reverse_cons, List.getElem?_append_right (by simp)]; simp)
theorem stk_pop {s : Nat → Int} {L : List Int} {x : Int} (h : stk s (x :: L)) : stk s L := fun i y hy => h i y (by
  rw [List.reverse_cons, List.getElem?_append_left]
  · exact hy
  · exact (List.getElem?_eq_some_iff.mp hy).1)
theorem bdS_up {s : Nat → Int} (h : bdS s) (i : Nat) {x : Int} (hx : -1000000 ≤ x ∧ x ≤ 1000000) : bdS (upZ s i x) := by
  intro j
  unfold upZ
  split
  · exact hx
  · exact h j
theorem evS_len {w x y c : Int} {L : List Int} (h : L.length ≤ 16) : (evS w x y c L).length ≤ 16 := by
  unfold evS
  split
  · split
    · simp; omega
    · exact h
  · match L with
    | [] => exact h
    | [_] => exact h
    | r :: l :: t => simp at h ⊢; omega
theorem evL_len (w x y : Int) (c : Nat → Int) : ∀ k, (evL w x y c k).length ≤ 16
  | 0 => by simp [evL]
  | k + 1 => evS_len (evL_len w x y c k)
theorem opd_b {c : Int} {w x y : Nat} (hc : -7 ≤ c ∧ c ≤ 1000000) (h4 : -4 < c) (hw : w ≤ 1000000) (hx : x < 6) (hy : y < 6) : -1000000 ≤ opd c w x y ∧ opd c w x y ≤ 1000000 := by unfold opd; split <;> (try split) <;> (try split) <;> omega
def isC (h : Hp) (v : Ev) (q : Nat) (s : Nat → Int) : Prop := h q = some (ob 0 [.ref (q + 1), .ref (q + 2)]) ∧ h (q + 1) = some (aI v 16 (sF s))
theorem c_eval {v : Ev} {h : Hp} {top q F n w x y : Nat} {c s0 : Nat → Int} (hq : isC h v q s0) (hs : bdS s0) (hc : isCode v h F n c) (hF : F ≠ q + 1) (hn : n ≤ 65536) (hcb : ∀ k, k < n → -7 ≤ c k ∧ c k ≤ 1000000) (hw : w ≤ 1000000) (hx : x < 6) (hy : y < 6) :
    Cal v mX0_evaluate 3 0 0 [.ref q, .ref F, .int (nI w), .int (nI x), .int (nI y)] h top (fun r h' top' => r = some (.int (zI (evV (evL w x y c n)))) ∧ top = top' ∧ ∃ s, bdS s ∧ h' = hp h (q + 1) (aI v 16 (sF s))) noX := by
  obtain ⟨h0, h1⟩ := hq
  refine Cal.ofJ (by decide +kernel) rfl (Nat.le_of_ble_eq_true rfl) fun hz0 => ?_
  refine r_ls [some (.ref q), some (.ref F), some (.int (nI w)), some (.int (nI x)), some (.int (nI y)), none, none, none] rfl ?_
  have key : ∀ m k s, k + m = n → stk s (evL w x y c k) → bdS s → ∀ o7, J v mX0_evaluate (rmOf 3 0 0) (KM v (fun r h' top' => r = some (.int (zI (evV (evL w x y c n)))) ∧ top = top' ∧ ∃ s, bdS s ∧ h' = hp h (q + 1) (aI v 16 (sF s))) noX 0 0) top 0 0 (hp h (q + 1) (aI v 16 (sF s))) top 6 [some (.ref q), some (.ref F), some (.int (nI w)), some (.int (nI x)), some (.int (nI y)), some (.int (nI (evL w x y c k).length)), some (.int (nI k)), o7] [] := by
    intro m
    induction m with
    | zero =>
      intro k s hk hst hbs o7
      have hk : k = n := by omega
      subst hk
      have hln := evL_len w x y c k
      have g0 : hp h (q + 1) (aI v 16 (sF s)) q = some (ob 0 [.ref (q + 1), .ref (q + 2)]) := (hp_ne _ _ (by omega)).trans h0
      refine r_iload (pc := 6) (i := 6) (tX0_evaluate.at 4 rfl) rfl ?_
      refine r_aload_n (pc := 8) (i := 1) (tX0_evaluate.at 5 rfl) rfl rfl ?_
      refine r_alenC (pc := 9) (tX0_evaluate.at 6 rfl) (hc.put hF) ?_
      refine r_icmp_geN (pc := 10) 105 (tX0_evaluate.at 7 rfl) (by decide) (by omega) (by omega) (fun _ => ?_) (fun c => by omega)
      refine r_iload (pc := 105) (i := 5) (tX0_evaluate.at 57 rfl) rfl ?_
      refine r_if_leN (pc := 107) 119 (tX0_evaluate.at 58 rfl) (by decide) (by omega) (fun c0 => ?_) (fun c0 => ?_)
      · refine r_iconst (pc := 119) (w := nI 0) (tX0_evaluate.at 64 rfl) (by decide) ?_
        refine r_iret (pc := 120) (tX0_evaluate.at 65 rfl) rfl (Nat.le_of_ble_eq_true rfl) (Nat.le_of_ble_eq_true rfl) ?_
        exact ⟨by rw [List.length_eq_zero_iff.mp c0]; rfl, rfl, s, hbs, rfl⟩
      · have hv : s 0 = evV (evL w x y c k) := by
          match hL : (evL w x y c k).reverse with
          | [] => rw [List.reverse_eq_nil_iff.mp hL] at c0; exact absurd c0 (by simp)
          | z :: t => rw [evV, hL]; exact hst 0 z (by rw [hL]; rfl)
        refine r_aload_n (pc := 110) (i := 0) (tX0_evaluate.at 59 rfl) rfl rfl ?_
        refine r_get (pc := 111) (tX0_evaluate.at 60 rfl) gf_X0_9 (g0) rfl ?_
        refine r_iconst (pc := 114) (w := nI 0) (tX0_evaluate.at 61 rfl) (by decide) ?_
        refine r_iald (pc := 115) (tX0_evaluate.at 62 rfl) (hp_eq _ _ _) (0) (rfl) (by omega) (Nat.le_of_ble_eq_true rfl) ?_
        refine r_goto (pc := 116) 120 (tX0_evaluate.at 63 rfl) (by decide) ?_
        refine r_iret (pc := 120) (tX0_evaluate.at 65 rfl) rfl (Nat.le_of_ble_eq_true rfl) (Nat.le_of_ble_eq_true rfl) ?_
        exact ⟨by rw [← hv]; rfl, rfl, s, hbs, rfl⟩
    | succ m ih =>
      intro k s hk hst hbs o7
      have hln := evL_len w x y c k
      have g0 : hp h (q + 1) (aI v 16 (sF s)) q = some (ob 0 [.ref (q + 1), .ref (q + 2)]) := (hp_ne _ _ (by omega)).trans h0
      have hck := hcb k (by omega)
      refine r_iload (pc := 6) (i := 6) (tX0_evaluate.at 4 rfl) rfl ?_
      refine r_aload_n (pc := 8) (i := 1) (tX0_evaluate.at 5 rfl) rfl rfl ?_
      refine r_alenC (pc := 9) (tX0_evaluate.at 6 rfl) (hc.put hF) ?_
      refine r_icmp_geN (pc := 10) 105 (tX0_evaluate.at 7 rfl) (by decide) (by omega) (by omega) (fun c => by omega) (fun _ => ?_)
      refine r_aload_n (pc := 13) (i := 1) (tX0_evaluate.at 8 rfl) rfl rfl ?_
      refine r_iload (pc := 14) (i := 6) (tX0_evaluate.at 9 rfl) rfl ?_
      refine r_ialdC (pc := 16) (tX0_evaluate.at 10 rfl) (hc.put hF) (k) (by omega) (by omega) ?_
      refine r_istore (pc := 17) (i := 7) (tX0_evaluate.at 11 rfl) (by decide) ?_
      refine r_iload (pc := 19) (i := 7) (tX0_evaluate.at 12 rfl) rfl ?_
      refine r_bipush (pc := 21) (w := zI (-4)) (tX0_evaluate.at 13 rfl) (by decide) ?_
      refine r_icmp_leZ (pc := 23) 58 (tX0_evaluate.at 14 rfl) (by decide) ⟨by omega, by omega⟩ ⟨by omega, by omega⟩ (fun c1 => ?_) (fun c1 => ?_)
      · refine r_iload (pc := 58) (i := 5) (tX0_evaluate.at 31 rfl) rfl ?_
        refine r_iconst (pc := 60) (w := nI 2) (tX0_evaluate.at 32 rfl) (by decide) ?_
        refine r_icmp_ltN (pc := 61) 99 (tX0_evaluate.at 33 rfl) (by decide) (by omega) (by omega) (fun c2 => ?_) (fun c2 => ?_)
        · have hE : evL w x y c (k + 1) = evL w x y c k := evS_sm c1 c2
          have nx := ih (k + 1) s (by omega) (by rw [hE]; exact hst) hbs (some (.int (zI (c k))))
          rw [hE] at nx
          first | refine r_iincN (pc := 99) (tX0_evaluate.at 55 rfl) rfl (by decide) ?_ | refine r_iinc (pc := 99) (tX0_evaluate.at 55 rfl) rfl rfl (by decide) ?_
          refine r_goto (pc := 102) 6 (tX0_evaluate.at 56 rfl) (by decide) ?_
          exact nx
        · match hL : evL w x y c k with
          | [] => rw [hL] at c2; exact absurd c2 (by simp)
          | [_] => rw [hL] at c2; exact absurd c2 (by simp)
          | r :: l :: t =>
            rw [hL] at hst hln
            have e1 : s (t.length + 1) = r := stk_top hst
            have e2 : s t.length = l := stk_top (stk_pop hst)
            have hE : evL w x y c (k + 1) = clM (opI (c k) l r) :: t := by rw [evL, hL, evS_op c1]
            have hl1 : 1 ≤ (l :: t).length := by simp
            have hlt : t.length + 2 ≤ 16 := hln
            have hcl := clM_b (opI (c k) l r)
            have nx := ih (k + 1) (upZ s t.length (clM (opI (c k) l r))) (by omega) (by rw [hE]; exact stk_push (stk_pop (stk_pop hst)) _) (bdS_up hbs _ hcl) (some (.int (zI (c k))))
            rw [hE] at nx
            subst e1; subst e2
            have hb1 := hbs (t.length + 1)
            have hb2 := hbs t.length
            first | refine r_idecN (pc := 64) (tX0_evaluate.at 34 rfl) rfl (by decide) ?_ | refine r_iinc (pc := 64) (tX0_evaluate.at 34 rfl) rfl rfl (by decide) ?_
            refine r_aload_n (pc := 67) (i := 0) (tX0_evaluate.at 35 rfl) rfl rfl ?_
            refine r_get (pc := 68) (tX0_evaluate.at 36 rfl) gf_X0_9 (g0) rfl ?_
            refine r_iload (pc := 71) (i := 5) (tX0_evaluate.at 37 rfl) rfl ?_
            refine r_iconst (pc := 73) (w := nI 1) (tX0_evaluate.at 38 rfl) (by decide) ?_
            first | refine r_isubN (pc := 74) (tX0_evaluate.at 39 rfl) (by omega) ?_ | refine r_isubZ (pc := 74) (tX0_evaluate.at 39 rfl) ?_ | refine r_isub (pc := 74) (tX0_evaluate.at 39 rfl) ?_
            refine r_iload (pc := 75) (i := 7) (tX0_evaluate.at 40 rfl) rfl ?_
            refine r_aload_n (pc := 77) (i := 0) (tX0_evaluate.at 41 rfl) rfl rfl ?_
            refine r_get (pc := 78) (tX0_evaluate.at 42 rfl) gf_X0_9 (g0) rfl ?_
            refine r_iload (pc := 81) (i := 5) (tX0_evaluate.at 43 rfl) rfl ?_
            refine r_iconst (pc := 83) (w := nI 1) (tX0_evaluate.at 44 rfl) (by decide) ?_
            first | refine r_isubN (pc := 84) (tX0_evaluate.at 45 rfl) (by omega) ?_ | refine r_isubZ (pc := 84) (tX0_evaluate.at 45 rfl) ?_ | refine r_isub (pc := 84) (tX0_evaluate.at 45 rfl) ?_
            refine r_iald (pc := 85) (tX0_evaluate.at 46 rfl) (hp_eq _ _ _) (t.length) (rfl) (by omega) (Nat.le_of_ble_eq_true rfl) ?_
            first | refine r_i2lN (pc := 86) (tX0_evaluate.at 47 rfl) (by omega) ?_ | refine r_i2lZ (pc := 86) (tX0_evaluate.at 47 rfl) ⟨by omega, by omega⟩ ?_ | refine r_i2l (pc := 86) (tX0_evaluate.at 47 rfl) ?_
            refine r_aload_n (pc := 87) (i := 0) (tX0_evaluate.at 48 rfl) rfl rfl ?_
            refine r_get (pc := 88) (tX0_evaluate.at 49 rfl) gf_X0_9 (g0) rfl ?_
            refine r_iload (pc := 91) (i := 5) (tX0_evaluate.at 50 rfl) rfl ?_
            refine r_iald (pc := 93) (tX0_evaluate.at 51 rfl) (hp_eq _ _ _) (t.length + 1) (rfl) (by omega) (Nat.le_of_ble_eq_true rfl) ?_
            first | refine r_i2lN (pc := 94) (tX0_evaluate.at 52 rfl) (by omega) ?_ | refine r_i2lZ (pc := 94) (tX0_evaluate.at 52 rfl) ⟨by omega, by omega⟩ ?_ | refine r_i2l (pc := 94) (tX0_evaluate.at 52 rfl) ?_
            refine r_callS (M' := mX0_operate) (pc := 95) (tX0_evaluate.at 53 rfl) ml_X0_63 rfl mw_X0_operate ⟨by decide, by decide⟩ (c_opr ⟨hck.1, c1⟩ hb2 hb1) rfl rfl (Nat.le_of_ble_eq_true rfl) (Nat.le_of_ble_eq_true rfl) (Nat.le_of_ble_eq_true rfl) ?_
            rintro _ _ _ ⟨rfl, rfl, rfl⟩
            refine r_iast (pc := 98) (tX0_evaluate.at 54 rfl) (hp_eq _ _ _) (t.length) (rfl) (by omega) (Nat.le_of_ble_eq_true rfl) ?_
            rw [upd_sF, hp_hp]
            first | refine r_iincN (pc := 99) (tX0_evaluate.at 55 rfl) rfl (by decide) ?_ | refine r_iinc (pc := 99) (tX0_evaluate.at 55 rfl) rfl rfl (by decide) ?_
            refine r_goto (pc := 102) 6 (tX0_evaluate.at 56 rfl) (by decide) ?_
            exact nx
      · refine r_iload (pc := 26) (i := 5) (tX0_evaluate.at 15 rfl) rfl ?_
        refine r_aload_n (pc := 28) (i := 0) (tX0_evaluate.at 16 rfl) rfl rfl ?_
        refine r_get (pc := 29) (tX0_evaluate.at 17 rfl) gf_X0_9 (g0) rfl ?_
        refine r_alenI (pc := 32) (tX0_evaluate.at 18 rfl) (hp_eq _ _ _) ?_
        refine r_icmp_geN (pc := 33) 99 (tX0_evaluate.at 19 rfl) (by decide) (by omega) (by omega) (fun c2 => ?_) (fun c2 => ?_)
        · have hE : evL w x y c (k + 1) = evL w x y c k := evS_no c1 c2
          have nx := ih (k + 1) s (by omega) (by rw [hE]; exact hst) hbs (some (.int (zI (c k))))
          rw [hE] at nx
          first | refine r_iincN (pc := 99) (tX0_evaluate.at 55 rfl) rfl (by decide) ?_ | refine r_iinc (pc := 99) (tX0_evaluate.at 55 rfl) rfl rfl (by decide) ?_
          refine r_goto (pc := 102) 6 (tX0_evaluate.at 56 rfl) (by decide) ?_
          exact nx
        · have hE : evL w x y c (k + 1) = opd (c k) w x y :: evL w x y c k := evS_pu c1 c2
          have hob := opd_b (w := w) hck (by omega) hw hx hy
          have nx := ih (k + 1) (upZ s (evL w x y c k).length (opd (c k) w x y)) (by omega) (by rw [hE]; exact stk_push hst _) (bdS_up hbs _ hob) (some (.int (zI (c k))))
          rw [hE] at nx
          refine r_aload_n (pc := 36) (i := 0) (tX0_evaluate.at 20 rfl) rfl rfl ?_
          refine r_get (pc := 37) (tX0_evaluate.at 21 rfl) gf_X0_9 (g0) rfl ?_
          refine r_iload (pc := 40) (i := 5) (tX0_evaluate.at 22 rfl) rfl ?_
          refine r_iload (pc := 42) (i := 7) (tX0_evaluate.at 23 rfl) rfl ?_
          refine r_iload_n (pc := 44) (i := 2) (tX0_evaluate.at 24 rfl) rfl rfl ?_
          refine r_iload_n (pc := 45) (i := 3) (tX0_evaluate.at 25 rfl) rfl rfl ?_
          refine r_iload (pc := 46) (i := 4) (tX0_evaluate.at 26 rfl) rfl ?_
          refine r_callS (M' := mX0_operand) (pc := 48) (tX0_evaluate.at 27 rfl) ml_X0_59 rfl mw_X0_operand ⟨by decide, by decide⟩ (c_opnd hck) rfl rfl (Nat.le_of_ble_eq_true rfl) (Nat.le_of_ble_eq_true rfl) (Nat.le_of_ble_eq_true rfl) ?_
          rintro _ _ _ ⟨rfl, rfl, rfl⟩
          refine r_iast (pc := 51) (tX0_evaluate.at 28 rfl) (hp_eq _ _ _) ((evL w x y c k).length) (rfl) (by omega) (Nat.le_of_ble_eq_true rfl) ?_
          rw [upd_sF, hp_hp]
          first | refine r_iincN (pc := 52) (tX0_evaluate.at 29 rfl) rfl (by decide) ?_ | refine r_iinc (pc := 52) (tX0_evaluate.at 29 rfl) rfl rfl (by decide) ?_
          refine r_goto (pc := 55) 99 (tX0_evaluate.at 30 rfl) (by decide) ?_
          first | refine r_iincN (pc := 99) (tX0_evaluate.at 55 rfl) rfl (by decide) ?_ | refine r_iinc (pc := 99) (tX0_evaluate.at 55 rfl) rfl rfl (by decide) ?_
          refine r_goto (pc := 102) 6 (tX0_evaluate.at 56 rfl) (by decide) ?_
          exact nx
  refine r_iconst (pc := 0) (w := nI 0) (tX0_evaluate.at 0 rfl) (by decide) ?_
  refine r_istore (pc := 1) (i := 5) (tX0_evaluate.at 1 rfl) (by decide) ?_
  refine r_iconst (pc := 3) (w := nI 0) (tX0_evaluate.at 2 rfl) (by decide) ?_
  refine r_istore (pc := 4) (i := 6) (tX0_evaluate.at 3 rfl) (by decide) ?_
  refine r_eq (h2 := hp h (q + 1) (aI v 16 (sF s0))) (hp_id h1).symm rfl ?_
  exact key n 0 s0 (by omega) (fun i x hx => by simp [evL] at hx) hs none
theorem evL_b {w x y : Nat} {c : Nat → Int} {n : Nat} (hcb : ∀ k, k < n → -7 ≤ c k ∧ c k ≤ 1000000) (hw : w ≤ 1000000) (hx : x < 6) (hy : y < 6) : ∀ k, k ≤ n → ∀ z ∈ evL w x y c k, -1000000 ≤ z ∧ z ≤ 1000000
  | 0, _, z, hz => by simp [evL] at hz
  | k + 1, hk, z, hz => by
    have ih := evL_b hcb hw hx hy k (by omega)
    have hck := hcb k (by omega)
    rw [evL] at hz
    by_cases c1 : -4 < c k
    · by_cases c2 : (evL w x y c k).length < 16
      · rw [evS_pu c1 c2] at hz
        rcases List.mem_cons.mp hz with h1 | h1
        · rw [h1]
          exact opd_b hck c1 hw hx hy
        · exact ih z h1
      · rw [evS_no c1 (by omega)] at hz
        exact ih z hz
    · match hL : evL w x y c k with
      | [] => rw [hL, evS_sm (by omega) (by simp)] at hz; simp at hz
      | [a] => rw [hL, evS_sm (by omega) (by simp)] at hz; exact ih z (by rw [hL]; exact hz)
      | r :: l :: t =>
        rw [hL, evS_op (by omega)] at hz
        rcases List.mem_cons.mp hz with h1 | h1
        · rw [h1]
          exact clM_b _
        · exact ih z (by rw [hL]; exact List.mem_cons_of_mem _ (List.mem_cons_of_mem _ h1))
theorem evV_b {w x y : Nat} {c : Nat → Int} {n : Nat} (hcb : ∀ k, k < n → -7 ≤ c k ∧ c k ≤ 1000000) (hw : w ≤ 1000000) (hx : x < 6) (hy : y < 6) : -1000000 ≤ evV (evL w x y c n) ∧ evV (evL w x y c n) ≤ 1000000 := by
  unfold evV
  cases hh : (evL w x y c n).reverse[0]? with
  | none => simp
  | some z => exact evL_b hcb hw hx hy n (Nat.le_refl _) z (List.mem_reverse.mp (List.mem_of_getElem? hh))
/-- the cost of a step -/
def cst (W : Nat → Nat) (c : Nat → Int) (n x y : Nat) : Nat := (max 0 (min 99 (evV (evL (W (x * 6 + y) : Nat) x y c n)))).toNat
theorem cst_le (W : Nat → Nat) (c : Nat → Int) (n x y : Nat) : cst W c n x y ≤ 99 := by unfold cst; omega
def isCd (v : Ev) (h : Hp) (F q n : Nat) (c : Nat → Int) : Prop := isCode v h F n c ∧ F ≠ q + 1 ∧ F ≠ q + 2 ∧ n ≤ 65536 ∧ ∀ k, k < n → -7 ≤ c k ∧ c k ≤ 1000000
theorem isCd.put {v : Ev} {h : Hp} {F q n a : Nat} {e : va_E} {c : Nat → Int} (hc : isCd v h F q n c) (ha : a = q + 1 ∨ a = q + 2) : isCd v (hp h a e) F q n c := by
  obtain ⟨h1, h2, h3, h4⟩ := hc
  exact ⟨h1.put (by omega), h2, h3, h4⟩
theorem c_cost {v : Ev} {h : Hp} {top q g n x y : Nat} {G : GT} {c s0 : Nat → Int} (hq : isC h v q s0) (hs : bdS s0) (hg : isG v h g G) (hc : isCd v h G.F q n c) (hW : ∀ k, k < 36 → G.W k ≤ 1000000) (hx : x < 6) (hy : y < 6) :
    Cal v mX0_costOfStep 4 0 0 [.ref q, .ref g, .int (nI x), .int (nI y)] h top (fun r h' top' => r = some (.int (nI (cst G.W c n x y))) ∧ top = top' ∧ ∃ s, bdS s ∧ h' = hp h (q + 1) (aI v 16 (sF s))) noX := by
  obtain ⟨hc1, hc2, hc3, hc4, hc5⟩ := hc
  have hb := evV_b (w := G.W (x * 6 + y)) hc5 (hW _ (by omega)) hx hy
  refine Cal.ofJ (by decide +kernel) rfl (Nat.le_of_ble_eq_true rfl) fun hz0 => ?_
  refine r_ls [some (.ref q), some (.ref g), some (.int (nI x)), some (.int (nI y)), none] rfl ?_
  refine r_aload_n (pc := 0) (i := 0) (tX0_costOfStep.at 0 rfl) rfl rfl ?_
  refine r_aload_n (pc := 1) (i := 1) (tX0_costOfStep.at 1 rfl) rfl rfl ?_
  refine r_get (pc := 2) (tX0_costOfStep.at 2 rfl) gf_X0_18 (hg.1) rfl ?_
  refine r_aload_n (pc := 5) (i := 1) (tX0_costOfStep.at 3 rfl) rfl rfl ?_
  refine r_iload_n (pc := 6) (i := 2) (tX0_costOfStep.at 4 rfl) rfl rfl ?_
  refine r_iload_n (pc := 7) (i := 3) (tX0_costOfStep.at 5 rfl) rfl rfl ?_
  refine r_callV (M' := mX3_weightBetween) (pc := 8) (tX0_costOfStep.at 6 rfl) ml_X0_23 rfl mw_X3_weightBetween ⟨by decide, by decide⟩ (hg.1) rfl rfl (c_wb hg (by omega)) rfl rfl (Nat.le_of_ble_eq_true rfl) (Nat.le_of_ble_eq_true rfl) (Nat.le_of_ble_eq_true rfl) ?_
  rintro _ _ _ ⟨rfl, rfl, rfl⟩
  refine r_iload_n (pc := 11) (i := 2) (tX0_costOfStep.at 7 rfl) rfl rfl ?_
  refine r_iload_n (pc := 12) (i := 3) (tX0_costOfStep.at 8 rfl) rfl rfl ?_
  refine r_callV (M' := mX0_evaluate) (pc := 13) (tX0_costOfStep.at 9 rfl) ml_X0_27 rfl mw_X0_evaluate ⟨by decide, by decide⟩ (hq.1) rfl rfl (c_eval hq hs hc1 hc2 hc4 hc5 (hW _ (by omega)) hx hy) rfl rfl (Nat.le_of_ble_eq_true rfl) (Nat.le_of_ble_eq_true rfl) (Nat.le_of_ble_eq_true rfl) ?_
  rintro _ _ _ ⟨rfl, rfl, s, hbs, rfl⟩
  refine r_istore (pc := 16) (i := 4) (tX0_costOfStep.at 10 rfl) (by decide) ?_
  refine r_iconst (pc := 18) (w := nI 0) (tX0_costOfStep.at 11 rfl) (by decide) ?_
  refine r_bipush (pc := 19) (w := nI 99) (tX0_costOfStep.at 12 rfl) (by decide) ?_
  refine r_iload (pc := 21) (i := 4) (tX0_costOfStep.at 13 rfl) rfl ?_
  rw [show nI 0 = zI 0 from rfl, show nI 99 = zI 99 from rfl]
  refine r_eq (h2 := hp h (q + 1) (aI v 16 (sF s))) rfl (st2 := [.int (zI (evV (evL (G.W (x * 6 + y) : Nat) x y c n))), .int (zI 99), .int (zI 0)]) rfl ?_
  first | refine r_mminN (pc := 23) (tX0_costOfStep.at 14 rfl) ml_X0_31 mw_min_s mw_math mw_min_c (Nat.le_of_ble_eq_true rfl) (Nat.le_of_ble_eq_true rfl) (Nat.le_of_ble_eq_true rfl) (Nat.le_of_ble_eq_true rfl) (by omega) (by omega) ?_ | refine r_mminZ (pc := 23) (tX0_costOfStep.at 14 rfl) ml_X0_31 mw_min_s mw_math mw_min_c (Nat.le_of_ble_eq_true rfl) (Nat.le_of_ble_eq_true rfl) (Nat.le_of_ble_eq_true rfl) (Nat.le_of_ble_eq_true rfl) ⟨by omega, by omega⟩ ⟨by omega, by omega⟩ ?_ | refine r_mmin (pc := 23) (tX0_costOfStep.at 14 rfl) ml_X0_31 mw_min_s mw_math mw_min_c (Nat.le_of_ble_eq_true rfl) (Nat.le_of_ble_eq_true rfl) (Nat.le_of_ble_eq_true rfl) (Nat.le_of_ble_eq_true rfl) ?_
  first | refine r_mmaxN (pc := 26) (tX0_costOfStep.at 15 rfl) ml_X0_36 mw_max_s mw_math mw_max_c (Nat.le_of_ble_eq_true rfl) (Nat.le_of_ble_eq_true rfl) (Nat.le_of_ble_eq_true rfl) (Nat.le_of_ble_eq_true rfl) (by omega) (by omega) ?_ | refine r_mmaxZ (pc := 26) (tX0_costOfStep.at 15 rfl) ml_X0_36 mw_max_s mw_math mw_max_c (Nat.le_of_ble_eq_true rfl) (Nat.le_of_ble_eq_true rfl) (Nat.le_of_ble_eq_true rfl) (Nat.le_of_ble_eq_true rfl) ⟨by omega, by omega⟩ ⟨by omega, by omega⟩ ?_ | refine r_mmax (pc := 26) (tX0_costOfStep.at 15 rfl) ml_X0_36 mw_max_s mw_math mw_max_c (Nat.le_of_ble_eq_true rfl) (Nat.le_of_ble_eq_true rfl) (Nat.le_of_ble_eq_true rfl) (Nat.le_of_ble_eq_true rfl) ?_
  refine r_iret (pc := 29) (tX0_costOfStep.at 16 rfl) rfl (Nat.le_of_ble_eq_true rfl) (Nat.le_of_ble_eq_true rfl) ?_
  exact ⟨by rw [← zI_nat, cst, Int.toNat_of_nonneg (by omega)], rfl, s, hbs, rfl⟩
def tbS (W : Nat → Nat) (c : Nat → Int) (n : Nat) (L H : Nat → Nat) (T : Nat → Nat) : Nat → Nat → Nat
  | 0 => filF T 36 0
  | e + 1 => upN (upN (tbS W c n L H T e) (L e * 6 + H e) (cst W c n (L e) (H e))) (H e * 6 + L e) (cst W c n (H e) (L e))
theorem c_fillT {v : Ev} {h : Hp} {top q g n : Nat} {G : GT} {c s0 : Nat → Int} {T : Nat → Nat} (hq : isC h v q s0) (hT : h (q + 2) = some (aI v 36 (iF T))) (hs : bdS s0) (hg : isG v h g G) (hgq : g + 6 ≤ q ∨ q + 3 ≤ g) (hc : isCd v h G.F q n c) (hW : ∀ k, k < 36 → G.W k ≤ 1000000) (he : G.e ≤ 15) (hx : ∀ i, i < G.e → G.L i < 6 ∧ G.H i < 6) :
    Cal v mX0_fillTable 5 0 0 [.ref q, .ref g] h top (fun r h' top' => r = none ∧ top = top' ∧ ∃ s, bdS s ∧ h' = hp (hp h (q + 1) (aI v 16 (sF s))) (q + 2) (aI v 36 (iF (tbS G.W c n G.L G.H T G.e)))) noX := by
  obtain ⟨h0, h1⟩ := hq
  refine Cal.ofJ (by decide +kernel) rfl (Nat.le_of_ble_eq_true rfl) fun hz0 => ?_
  refine r_ls [some (.ref q), some (.ref g), none, none, none] rfl ?_
  have hfil := iF_fil T 36 0
  refine r_aload_n (pc := 0) (i := 0) (tX0_fillTable.at 0 rfl) rfl rfl ?_
  refine r_get (pc := 1) (tX0_fillTable.at 1 rfl) gf_X0_15 (h0) rfl ?_
  refine r_iconst (pc := 4) (w := nI 0) (tX0_fillTable.at 2 rfl) (by decide) ?_
  refine r_callS (M' := mJ7_fill_53178) (pc := 5) (tX0_fillTable.at 3 rfl) ml_X0_39 rfl mw_J7_fill_53178 ⟨by decide, by decide⟩ (c_fillI hT (by omega)) rfl rfl (Nat.le_of_ble_eq_true rfl) (Nat.le_of_ble_eq_true rfl) (Nat.le_of_ble_eq_true rfl) ?_
  rintro _ _ _ ⟨rfl, rfl, rfl⟩
  rw [hfil]
  refine r_iconst (pc := 8) (w := nI 0) (tX0_fillTable.at 4 rfl) (by decide) ?_
  refine r_istore_n (pc := 9) (i := 2) (tX0_fillTable.at 5 rfl) rfl (by decide) ?_
  have key : ∀ m i s o3 o4, i + m = G.e → bdS s → J v mX0_fillTable (rmOf 5 0 0) (KM v (fun r h' top' => r = none ∧ top = top' ∧ ∃ s, bdS s ∧ h' = hp (hp h (q + 1) (aI v 16 (sF s))) (q + 2) (aI v 36 (iF (tbS G.W c n G.L G.H T G.e)))) noX 0 0) top 0 0 (hp (hp h (q + 1) (aI v 16 (sF s))) (q + 2) (aI v 36 (iF (tbS G.W c n G.L G.H T i)))) top 10 [some (.ref q), some (.ref g), some (.int (nI i)), o3, o4] [] := by
    intro m
    induction m with
    | zero =>
      intro i s o3 o4 hi hbs
      have hi : i = G.e := by omega
      subst hi
      have hg2 : isG v (hp (hp h (q + 1) (aI v 16 (sF s))) (q + 2) (aI v 36 (iF (tbS G.W c n G.L G.H T G.e)))) g G := (hg.put (by omega)).put (by omega)
      refine r_iload_n (pc := 10) (i := 2) (tX0_fillTable.at 6 rfl) rfl rfl ?_
      refine r_aload_n (pc := 11) (i := 1) (tX0_fillTable.at 7 rfl) rfl rfl ?_
      refine r_get (pc := 12) (tX0_fillTable.at 8 rfl) gf_X0_45 (hg2.1) rfl ?_
      refine r_icmp_geN (pc := 15) 79 (tX0_fillTable.at 9 rfl) (by decide) (by omega) (by omega) (fun _ => ?_) (fun c => by omega)
      refine r_vret (pc := 79) (tX0_fillTable.at 48 rfl) rfl (Nat.le_of_ble_eq_true rfl) (Nat.le_of_ble_eq_true rfl) ?_
      exact ⟨rfl, rfl, s, hbs, rfl⟩
    | succ m ih =>
      intro i s o3 o4 hi hbs
      have hx1 := (hx i (by omega)).1
      have hx2 := (hx i (by omega)).2
      have gT : ∀ (s : Nat → Int) (t : Nat → Nat), isG v (hp (hp h (q + 1) (aI v 16 (sF s))) (q + 2) (aI v 36 (iF t))) g G := fun s t => (hg.put (by omega)).put (by omega)
      have g0 : ∀ (s : Nat → Int) (t : Nat → Nat), isC (hp (hp h (q + 1) (aI v 16 (sF s))) (q + 2) (aI v 36 (iF t))) v q s := fun s t => ⟨(hp_ne _ _ (by omega)).trans ((hp_ne _ _ (by omega)).trans h0), (hp_ne _ _ (by omega)).trans (hp_eq _ _ _)⟩
      have gc : ∀ (s : Nat → Int) (t : Nat → Nat), isCd v (hp (hp h (q + 1) (aI v 16 (sF s))) (q + 2) (aI v 36 (iF t))) G.F q n c := fun s t => (hc.put (Or.inl rfl)).put (Or.inr rfl)
      have gs : ∀ (s s2 : Nat → Int) (t : Nat → Nat), hp (hp (hp h (q + 1) (aI v 16 (sF s))) (q + 2) (aI v 36 (iF t))) (q + 1) (aI v 16 (sF s2)) = hp (hp h (q + 1) (aI v 16 (sF s2))) (q + 2) (aI v 36 (iF t)) := fun s s2 t => by rw [hp_comm _ _ _ (by omega), hp_hp]
      refine r_iload_n (pc := 10) (i := 2) (tX0_fillTable.at 6 rfl) rfl rfl ?_
      refine r_aload_n (pc := 11) (i := 1) (tX0_fillTable.at 7 rfl) rfl rfl ?_
      refine r_get (pc := 12) (tX0_fillTable.at 8 rfl) gf_X0_45 ((gT _ _).1) rfl ?_
      refine r_icmp_geN (pc := 15) 79 (tX0_fillTable.at 9 rfl) (by decide) (by omega) (by omega) (fun c => by omega) (fun _ => ?_)
      refine r_aload_n (pc := 18) (i := 1) (tX0_fillTable.at 10 rfl) rfl rfl ?_
      refine r_get (pc := 19) (tX0_fillTable.at 11 rfl) gf_X0_49 ((gT _ _).1) rfl ?_
      refine r_iload_n (pc := 22) (i := 2) (tX0_fillTable.at 12 rfl) rfl rfl ?_
      refine r_iald (pc := 23) (tX0_fillTable.at 13 rfl) ((gT _ _).2.1) (i) (rfl) (by omega) (Nat.le_of_ble_eq_true rfl) ?_
      refine r_istore_n (pc := 24) (i := 3) (tX0_fillTable.at 14 rfl) rfl (by decide) ?_
      refine r_aload_n (pc := 25) (i := 1) (tX0_fillTable.at 15 rfl) rfl rfl ?_
      refine r_get (pc := 26) (tX0_fillTable.at 16 rfl) gf_X0_52 ((gT _ _).1) rfl ?_
      refine r_iload_n (pc := 29) (i := 2) (tX0_fillTable.at 17 rfl) rfl rfl ?_
      refine r_iald (pc := 30) (tX0_fillTable.at 18 rfl) ((gT _ _).2.2.1) (i) (rfl) (by omega) (Nat.le_of_ble_eq_true rfl) ?_
      refine r_istore (pc := 31) (i := 4) (tX0_fillTable.at 19 rfl) (by decide) ?_
      refine r_aload_n (pc := 33) (i := 0) (tX0_fillTable.at 20 rfl) rfl rfl ?_
      refine r_get (pc := 34) (tX0_fillTable.at 21 rfl) gf_X0_15 ((g0 _ _).1) rfl ?_
      refine r_iload_n (pc := 37) (i := 3) (tX0_fillTable.at 22 rfl) rfl rfl ?_
      refine r_bipush (pc := 38) (w := nI 6) (tX0_fillTable.at 23 rfl) (by decide) ?_
      first | refine r_imulN (pc := 40) (tX0_fillTable.at 24 rfl) ?_ | refine r_imulZ (pc := 40) (tX0_fillTable.at 24 rfl) ?_ | refine r_imul (pc := 40) (tX0_fillTable.at 24 rfl) ?_
      refine r_iload (pc := 41) (i := 4) (tX0_fillTable.at 25 rfl) rfl ?_
      first | refine r_iaddN (pc := 43) (tX0_fillTable.at 26 rfl) ?_ | refine r_iaddZ (pc := 43) (tX0_fillTable.at 26 rfl) ?_ | refine r_iadd (pc := 43) (tX0_fillTable.at 26 rfl) ?_
      refine r_aload_n (pc := 44) (i := 0) (tX0_fillTable.at 27 rfl) rfl rfl ?_
      refine r_aload_n (pc := 45) (i := 1) (tX0_fillTable.at 28 rfl) rfl rfl ?_
      refine r_iload_n (pc := 46) (i := 3) (tX0_fillTable.at 29 rfl) rfl rfl ?_
      refine r_iload (pc := 47) (i := 4) (tX0_fillTable.at 30 rfl) rfl ?_
      refine r_callV (M' := mX0_costOfStep) (pc := 49) (tX0_fillTable.at 31 rfl) ml_X0_55 rfl mw_X0_costOfStep ⟨by decide, by decide⟩ ((g0 _ _).1) rfl rfl (c_cost (g0 _ _) hbs (gT _ _) (gc _ _) hW hx1 hx2) rfl rfl (Nat.le_of_ble_eq_true rfl) (Nat.le_of_ble_eq_true rfl) (Nat.le_of_ble_eq_true rfl) ?_
      rintro _ _ _ ⟨rfl, rfl, s2, hbs2, rfl⟩
      rw [gs]
      refine r_iast (pc := 52) (tX0_fillTable.at 32 rfl) (hp_eq _ _ _) (G.L i * 6 + G.H i) (rfl) (by omega) (Nat.le_of_ble_eq_true rfl) ?_
      rw [upd_iF, hp_hp]
      refine r_aload_n (pc := 53) (i := 0) (tX0_fillTable.at 33 rfl) rfl rfl ?_
      refine r_get (pc := 54) (tX0_fillTable.at 34 rfl) gf_X0_15 ((g0 _ _).1) rfl ?_
      refine r_iload (pc := 57) (i := 4) (tX0_fillTable.at 35 rfl) rfl ?_
      refine r_bipush (pc := 59) (w := nI 6) (tX0_fillTable.at 36 rfl) (by decide) ?_
      first | refine r_imulN (pc := 61) (tX0_fillTable.at 37 rfl) ?_ | refine r_imulZ (pc := 61) (tX0_fillTable.at 37 rfl) ?_ | refine r_imul (pc := 61) (tX0_fillTable.at 37 rfl) ?_
      refine r_iload_n (pc := 62) (i := 3) (tX0_fillTable.at 38 rfl) rfl rfl ?_
      first | refine r_iaddN (pc := 63) (tX0_fillTable.at 39 rfl) ?_ | refine r_iaddZ (pc := 63) (tX0_fillTable.at 39 rfl) ?_ | refine r_iadd (pc := 63) (tX0_fillTable.at 39 rfl) ?_
      refine r_aload_n (pc := 64) (i := 0) (tX0_fillTable.at 40 rfl) rfl rfl ?_
      refine r_aload_n (pc := 65) (i := 1) (tX0_fillTable.at 41 rfl) rfl rfl ?_
      refine r_iload (pc := 66) (i := 4) (tX0_fillTable.at 42 rfl) rfl ?_
      refine r_iload_n (pc := 68) (i := 3) (tX0_fillTable.at 43 rfl) rfl rfl ?_
      refine r_callV (M' := mX0_costOfStep) (pc := 69) (tX0_fillTable.at 44 rfl) ml_X0_55 rfl mw_X0_costOfStep ⟨by decide, by decide⟩ ((g0 _ _).1) rfl rfl (c_cost (g0 _ _) hbs2 (gT _ _) (gc _ _) hW hx2 hx1) rfl rfl (Nat.le_of_ble_eq_true rfl) (Nat.le_of_ble_eq_true rfl) (Nat.le_of_ble_eq_true rfl) ?_
      rintro _ _ _ ⟨rfl, rfl, s3, hbs3, rfl⟩
      rw [gs]
      refine r_iast (pc := 72) (tX0_fillTable.at 45 rfl) (hp_eq _ _ _) (G.H i * 6 + G.L i) (rfl) (by omega) (Nat.le_of_ble_eq_true rfl) ?_
      rw [upd_iF, hp_hp]
      first | refine r_iincN (pc := 73) (tX0_fillTable.at 46 rfl) rfl (by decide) ?_ | refine r_iinc (pc := 73) (tX0_fillTable.at 46 rfl) rfl rfl (by decide) ?_
      refine r_goto (pc := 76) 10 (tX0_fillTable.at 47 rfl) (by decide) ?_
      exact ih (i + 1) s3 _ _ (by omega) hbs3
  refine r_eq (h2 := hp (hp h (q + 1) (aI v 16 (sF s0))) (q + 2) (aI v 36 (iF (tbS G.W c n G.L G.H T 0)))) (by rw [hp_id h1]; rfl) rfl ?_
  exact key G.e 0 s0 none none (by omega) hs
theorem c_tabled {v : Ev} {h : Hp} {top q x y : Nat} {T : Nat → Nat} (h0 : h q = some (ob 0 [.ref (q + 1), .ref (q + 2)])) (hT : h (q + 2) = some (aI v 36 (iF T))) (hx : x < 6) (hy : y < 6) : Cal v mX0_tabled 1 0 0 [.ref q, .int (nI x), .int (nI y)] h top (pR (.int (nI (T (x * 6 + y)))) h top) noX := by
  refine Cal.ofJ (by decide +kernel) rfl (Nat.le_of_ble_eq_true rfl) fun hz0 => ?_
  refine r_ls [some (.ref q), some (.int (nI x)), some (.int (nI y))] rfl ?_
  refine r_aload_n (pc := 0) (i := 0) (tX0_tabled.at 0 rfl) rfl rfl ?_
  refine r_get (pc := 1) (tX0_tabled.at 1 rfl) gf_X0_15 (h0) rfl ?_
  refine r_iload_n (pc := 4) (i := 1) (tX0_tabled.at 2 rfl) rfl rfl ?_
  refine r_bipush (pc := 5) (w := nI 6) (tX0_tabled.at 3 rfl) (by decide) ?_
  first | refine r_imulN (pc := 7) (tX0_tabled.at 4 rfl) ?_ | refine r_imulZ (pc := 7) (tX0_tabled.at 4 rfl) ?_ | refine r_imul (pc := 7) (tX0_tabled.at 4 rfl) ?_
  refine r_iload_n (pc := 8) (i := 2) (tX0_tabled.at 5 rfl) rfl rfl ?_
  first | refine r_iaddN (pc := 9) (tX0_tabled.at 6 rfl) ?_ | refine r_iaddZ (pc := 9) (tX0_tabled.at 6 rfl) ?_ | refine r_iadd (pc := 9) (tX0_tabled.at 6 rfl) ?_
  refine r_iald (pc := 10) (tX0_tabled.at 7 rfl) (hT) (x * 6 + y) (rfl) (by omega) (Nat.le_of_ble_eq_true rfl) ?_
  refine r_iret (pc := 11) (tX0_tabled.at 8 rfl) rfl (Nat.le_of_ble_eq_true rfl) (Nat.le_of_ble_eq_true rfl) ?_
  exact ⟨rfl, rfl, rfl⟩
def coH (v : Ev) (h : Hp) (q : Nat) : Hp := hp (hp (hp h q (ob 0 [.ref (q + 1), .ref (q + 2)])) (q + 1) (aI v 16 (sF (fun _ => 0)))) (q + 2) (aI v 36 (iF (fun _ => 0)))
theorem c_coInit {v : Ev} {h : Hp} {q : Nat} (hq : h q = some (ob 0 [.null, .null])) : Cal v mX0_init 1 2 52 [.ref q] h (q + 1) (pT (coH v h q) (q + 3)) noX := by
  refine Cal.ofJ (by decide +kernel) rfl (Nat.le_of_ble_eq_true rfl) fun hz0 => ?_
  refine r_ls [some (.ref q)] rfl ?_
  refine r_aload_n (pc := 0) (i := 0) (tX0_init.at 0 rfl) rfl rfl ?_
  refine r_objInit (pc := 1) (tX0_init.at 1 rfl) ml_X0_3 oi_inst oi_code (Nat.le_of_ble_eq_true rfl) (Nat.le_of_ble_eq_true rfl) ?_
  refine r_aload_n (pc := 4) (i := 0) (tX0_init.at 2 rfl) rfl rfl ?_
  refine r_bipush (pc := 5) (w := nI 16) (tX0_init.at 3 rfl) (by decide) ?_
  refine r_newaI (pc := 7) (16) (tX0_init.at 4 rfl) (rfl) (Nat.le_of_ble_eq_true rfl) ac_int (Nat.le_of_ble_eq_true rfl) (Nat.le_of_ble_eq_true rfl) (fun fr7 => ?_)
  refine r_putF (pc := 9) (tX0_init.at 5 rfl) pff_X0_9 rfl ((hp_ne _ _ (by omega)).trans hq) (Nat.le_of_ble_eq_true rfl) rfl rfl ?_
  refine r_aload_n (pc := 12) (i := 0) (tX0_init.at 6 rfl) rfl rfl ?_
  refine r_bipush (pc := 13) (w := nI 36) (tX0_init.at 7 rfl) (by decide) ?_
  refine r_newaI (pc := 15) (36) (tX0_init.at 8 rfl) (rfl) (Nat.le_of_ble_eq_true rfl) ac_int (Nat.le_of_ble_eq_true rfl) (Nat.le_of_ble_eq_true rfl) (fun fr15 => ?_)
  refine r_putF (pc := 17) (tX0_init.at 9 rfl) pff_X0_15 rfl ((hp_ne _ _ (by omega)).trans (hp_eq _ _ _)) (Nat.le_of_ble_eq_true rfl) rfl rfl ?_
  refine r_vret (pc := 20) (tX0_init.at 10 rfl) rfl (Nat.le_of_ble_eq_true rfl) (Nat.le_of_ble_eq_true rfl) ?_
  refine ⟨rfl, ?_, rfl⟩
  funext a
  unfold coH hp
  by_cases e1 : a = q
  · subst e1
    simp
  · by_cases e2 : a = q + 1
    · subst e2
      simp
      rfl
    · by_cases e3 : a = q + 2
      · subst e3
        simp
        rfl
      · simp [e1, e2, e3]
end
section
/-! ===== Equations ===== -/
section
variable {v : Ev} {M : Md} {R : Room} {K : List Frame → Array Value → State → State → Prop} {t0 cells slots : Nat} {h : Hp} {top pc : Nat} {ls : List (Option Value)} {st : List Value}
theorem r_inegN {a : Nat} (d : decode M.2.1 pc = .ok (.ineg, 1)) (k : J v M R K t0 cells slots h top (pc + 1) ls (.int (zI (-(a : Int))) :: st)) : J v M R K t0 cells slots h top pc ls (.int (nI a) :: st) := r_ineg d (by rw [← zI_nat, zI_neg]; exact k)
end
def lF (C : Nat → Int) : Nat → Int64 := fun p => lI (C p)
theorem upd_lF (C : Nat → Int) (i : Nat) (x : Int) : vp_updL (lF C) i (lI x) = lF (upZ C i x) := by
  funext k
  unfold vp_updL lF upZ
  split <;> rfl
def eqE (q k : Nat) : va_E := ob 1 [.ref (q + 1), .ref (q + 2), .ref (q + 3), .int (nI k)]
def eC (v : Ev) (q : Nat) (C : Nat → Int) (U : Nat → Nat) (k : Nat) : Nat → va_E
  | 0 => eqE q k
  | 1 => aJ v 42 (lF C)
  | 2 => aI v 6 (iF U)
  | _ => aJ v 6 (lF (fun _ => 0))
def eH (v : Ev) (h : Hp) (q : Nat) (C : Nat → Int) (U : Nat → Nat) (k : Nat) : Hp := fun a => if q ≤ a ∧ a < q + 4 then some (eC v q C U k (a - q)) else h a
section
variable {v : Ev} {h : Hp} {q : Nat} {C : Nat → Int} {U : Nat → Nat} {k : Nat}
theorem eH_0 : eH v h q C U k q = some (eqE q k) := by unfold eH; rw [if_pos (by omega), Nat.sub_self]; rfl
theorem eH_1 : eH v h q C U k (q + 1) = some (aJ v 42 (lF C)) := by unfold eH; rw [if_pos (by omega), show q + 1 - q = 1 by omega]; rfl
theorem eH_2 : eH v h q C U k (q + 2) = some (aI v 6 (iF U)) := by unfold eH; rw [if_pos (by omega), show q + 2 - q = 2 by omega]; rfl
theorem eH_3 : eH v h q C U k (q + 3) = some (aJ v 6 (lF (fun _ => 0))) := by unfold eH; rw [if_pos (by omega), show q + 3 - q = 3 by omega]; rfl
theorem eH_out {a : Nat} (ha : a < q ∨ q + 4 ≤ a) : eH v h q C U k a = h a := if_neg (by omega)
theorem eH_G {g : Nat} {G : GT} (hg : isG v h g G) (hd : g + 6 ≤ q ∨ q + 4 ≤ g) : isG v (eH v h q C U k) g G := hg.frame (fun a _ _ => eH_out (by omega))
theorem eH_ext {h' : Hp} (h0 : h' q = some (eqE q k)) (h1 : h' (q + 1) = some (aJ v 42 (lF C))) (h2 : h' (q + 2) = some (aI v 6 (iF U))) (h3 : h' (q + 3) = some (aJ v 6 (lF (fun _ => 0)))) (ho : ∀ a, (a < q ∨ q + 4 ≤ a) → h' a = h a) : h' = eH v h q C U k := by
  funext a
  by_cases ha : q ≤ a ∧ a < q + 4
  · rcases (show a = q ∨ a = q + 1 ∨ a = q + 2 ∨ a = q + 3 by omega) with e | e | e | e
    · rw [e, h0, eH_0]
    · rw [e, h1, eH_1]
    · rw [e, h2, eH_2]
    · rw [e, h3, eH_3]
  · rw [ho a (by omega), eH_out (by omega)]
theorem eH_p0 (k2 : Nat) : hp (eH v h q C U k) q (eqE q k2) = eH v h q C U k2 :=
  eH_ext (hp_eq _ _ _) ((hp_ne _ _ (by omega)).trans eH_1) ((hp_ne _ _ (by omega)).trans eH_2) ((hp_ne _ _ (by omega)).trans eH_3) (fun a ha => (hp_ne _ _ (by omega)).trans (eH_out ha))
theorem eH_p1 (C2 : Nat → Int) : hp (eH v h q C U k) (q + 1) (aJ v 42 (lF C2)) = eH v h q C2 U k :=
  eH_ext ((hp_ne _ _ (by omega)).trans eH_0) (hp_eq _ _ _) ((hp_ne _ _ (by omega)).trans eH_2) ((hp_ne _ _ (by omega)).trans eH_3) (fun a ha => (hp_ne _ _ (by omega)).trans (eH_out ha))
theorem eH_p2 (U2 : Nat → Nat) : hp (eH v h q C U k) (q + 2) (aI v 6 (iF U2)) = eH v h q C U2 k :=
  eH_ext ((hp_ne _ _ (by omega)).trans eH_0) ((hp_ne _ _ (by omega)).trans eH_1) (hp_eq _ _ _) ((hp_ne _ _ (by omega)).trans eH_3) (fun a ha => (hp_ne _ _ (by omega)).trans (eH_out ha))
theorem eH_put {a : Nat} {e : va_E} (ha : a < q ∨ q + 4 ≤ a) : hp (eH v h q C U k) a e = eH v (hp h a e) q C U k :=
  eH_ext ((hp_ne _ _ (by omega)).trans eH_0) ((hp_ne _ _ (by omega)).trans eH_1) ((hp_ne _ _ (by omega)).trans eH_2) ((hp_ne _ _ (by omega)).trans eH_3) (fun b hb => by
    by_cases e : b = a
    · rw [e, hp_eq, hp_eq]
    · rw [hp_ne _ _ e, hp_ne _ _ e, eH_out hb])
theorem eH_eH {C2 : Nat → Int} {U2 : Nat → Nat} {k2 : Nat} : eH v (eH v h q C U k) q C2 U2 k2 = eH v h q C2 U2 k2 := by
  refine eH_ext eH_0 eH_1 eH_2 eH_3 (fun a ha => ?_)
  rw [eH_out ha, eH_out ha]
end
theorem c_cell {v : Ev} {h : Hp} {top q k i j : Nat} {C : Nat → Int} {U : Nat → Nat} (hi : i * 7 + j < 42) : Cal v mX1_cell 1 0 0 [.ref q, .int (nI i), .int (nI j)] (eH v h q C U k) top (pR (.long (lI (C (i * 7 + j)))) (eH v h q C U k) top) noX := by
  refine Cal.ofJ (by decide +kernel) rfl (Nat.le_of_ble_eq_true rfl) fun hz0 => ?_
  refine r_ls [some (.ref q), some (.int (nI i)), some (.int (nI j))] rfl ?_
  refine r_aload_n (pc := 0) (i := 0) (tX1_cell.at 0 rfl) rfl rfl ?_
  refine r_get (pc := 1) (tX1_cell.at 1 rfl) gf_X1_11 (eH_0) rfl ?_
  refine r_iload_n (pc := 4) (i := 1) (tX1_cell.at 2 rfl) rfl rfl ?_
  refine r_bipush (pc := 5) (w := nI 7) (tX1_cell.at 3 rfl) (by decide) ?_
  first | refine r_imulN (pc := 7) (tX1_cell.at 4 rfl) ?_ | refine r_imul (pc := 7) (tX1_cell.at 4 rfl) ?_
  refine r_iload_n (pc := 8) (i := 2) (tX1_cell.at 5 rfl) rfl rfl ?_
  first | refine r_iaddN (pc := 9) (tX1_cell.at 6 rfl) ?_ | refine r_iadd (pc := 9) (tX1_cell.at 6 rfl) ?_
  refine r_lald (pc := 10) (tX1_cell.at 7 rfl) (eH_1) (i * 7 + j) (rfl) (by omega) (Nat.le_of_ble_eq_true rfl) ?_
  refine r_lret (pc := 11) (tX1_cell.at 8 rfl) rfl (Nat.le_of_ble_eq_true rfl) (Nat.le_of_ble_eq_true rfl) ?_
  exact ⟨rfl, rfl, rfl⟩
theorem c_putCell {v : Ev} {h : Hp} {top q k i j : Nat} {x : Int} {C : Nat → Int} {U : Nat → Nat} (hi : i * 7 + j < 42) : Cal v mX1_putCell 1 0 0 [.ref q, .int (nI i), .int (nI j), .long (lI x)] (eH v h q C U k) top (pV (eH v h q (upZ C (i * 7 + j) x) U k) top) noX := by
  refine Cal.ofJ (by decide +kernel) rfl (Nat.le_of_ble_eq_true rfl) fun hz0 => ?_
  refine r_ls [some (.ref q), some (.int (nI i)), some (.int (nI j)), some (.long (lI x)), none] rfl ?_
  refine r_aload_n (pc := 0) (i := 0) (tX1_putCell.at 0 rfl) rfl rfl ?_
  refine r_get (pc := 1) (tX1_putCell.at 1 rfl) gf_X1_11 (eH_0) rfl ?_
  refine r_iload_n (pc := 4) (i := 1) (tX1_putCell.at 2 rfl) rfl rfl ?_
  refine r_bipush (pc := 5) (w := nI 7) (tX1_putCell.at 3 rfl) (by decide) ?_
  first | refine r_imulN (pc := 7) (tX1_putCell.at 4 rfl) ?_ | refine r_imul (pc := 7) (tX1_putCell.at 4 rfl) ?_
  refine r_iload_n (pc := 8) (i := 2) (tX1_putCell.at 5 rfl) rfl rfl ?_
  first | refine r_iaddN (pc := 9) (tX1_putCell.at 6 rfl) ?_ | refine r_iadd (pc := 9) (tX1_putCell.at 6 rfl) ?_
  refine r_lload_n (pc := 10) (i := 3) (tX1_putCell.at 7 rfl) rfl rfl ?_
  refine r_last (pc := 11) (tX1_putCell.at 8 rfl) (eH_1) (i * 7 + j) (rfl) (by omega) (Nat.le_of_ble_eq_true rfl) ?_
  rw [upd_lF, eH_p1]
  refine r_vret (pc := 12) (tX1_putCell.at 9 rfl) rfl (Nat.le_of_ble_eq_true rfl) (Nat.le_of_ble_eq_true rfl) ?_
  exact ⟨rfl, rfl, rfl⟩
/-- the unknown vertices in their order, without the wanted one -/
def ordL (S w : Nat) : Nat → List Nat
  | 0 => []
  | u + 1 => if u ≠ w ∧ S.testBit u then ordL S w u ++ [u] else ordL S w u
theorem ordL_len (S w : Nat) : ∀ n, (ordL S w n).length + (if w < n then 1 else 0) ≤ n
  | 0 => by simp [ordL]
  | n + 1 => by
    have ih := ordL_len S w n
    rw [ordL]
    by_cases h : n = w
    · rw [if_neg (by omega), if_pos (by omega)]
      rw [if_neg (by omega)] at ih
      omega
    · split
      · rw [List.length_append]
        split at ih
        · rw [if_pos (by omega)]; simp; omega
        · rw [if_neg (by omega)]; simp; omega
      · split at ih
        · rw [if_pos (by omega)]; omega
        · rw [if_neg (by omega)]; omega
theorem ordL_lt (S w : Nat) : ∀ n, ∀ x ∈ ordL S w n, x < n
  | 0, x, hx => by simp [ordL] at hx
  | n + 1, x, hx => by
    rw [ordL] at hx
    split at hx
    · rcases List.mem_append.mp hx with h | h
      · have := ordL_lt S w n x h
        omega
      · rw [List.mem_singleton.mp h]
        omega
    · have := ordL_lt S w n x hx
      omega
def isL (U : Nat → Nat) (l : List Nat) : Prop := ∀ i, i < l.length → U i = l.getD i 0
theorem isL.push {U : Nat → Nat} {l : List Nat} (hu : isL U l) (x : Nat) : isL (upN U l.length x) (l ++ [x]) := by
  intro i hi
  rw [List.length_append, List.length_singleton] at hi
  by_cases e : i = l.length
  · rw [e, upN_eq]
    simp
  · rw [upN_ne _ _ e, hu i (by omega)]
    simp [List.getD, List.getElem?_append_left (show i < l.length by omega)]
def unkL (S w n : Nat) : List Nat := ordL S w n ++ [w]
theorem unkL_len {S w n : Nat} (hw : w < n) : (unkL S w n).length ≤ n ∧ 1 ≤ (unkL S w n).length := by
  have h := ordL_len S w n
  rw [if_pos hw] at h
  unfold unkL
  rw [List.length_append, List.length_singleton]
  omega
theorem unkL_lt {S w n : Nat} (hw : w < n) (i : Nat) : (unkL S w n).getD i 0 < n := by
  rw [List.getD_eq_getElem?_getD]
  cases hh : (unkL S w n)[i]? with
  | none => simp; omega
  | some x =>
    have hm := List.mem_of_getElem? hh
    unfold unkL at hm
    rcases List.mem_append.mp hm with h | h
    · exact ordL_lt S w n x h
    · rw [List.mem_singleton.mp h]
      exact hw
def aug (W : Nat → Nat) (n : Nat) (g : Nat → Int) (l : List Nat) (i j : Nat) : Int :=
  if j = l.length then g (l.getD i 0) else if i = j then (degN W (l.getD i 0) n : Nat) else -(W (l.getD i 0 * 6 + l.getD j 0) : Nat)
theorem w7 {i j i2 j2 : Nat} (h1 : j < 7) (h2 : j2 < 7) : i * 7 + j = i2 * 7 + j2 ↔ i = i2 ∧ j = j2 := by omega
theorem c_build {v : Ev} {h : Hp} {top q g ga S w k : Nat} {G : GT} {C Gn : Nat → Int} {U : Nat → Nat} (hg : isG v h g G) (hd : g + 6 ≤ q ∨ q + 4 ≤ g) (hga : ∀ C U k, eH v h q C U k ga = some (aJ v 6 (lF Gn))) (hn : G.n ≤ 6) (hS : S < 64) (hw : w < G.n) (hW : ∀ k, k < 36 → G.W k ≤ 1000000) :
    Cal v mX1_build 3 0 0 [.ref q, .ref g, .int (nI S), .int (nI w), .ref ga] (eH v h q C U k) top (fun r h' top' => r = none ∧ top = top' ∧ ∃ C' U', h' = eH v h q C' U' (unkL S w G.n).length ∧ ∀ i j, i < (unkL S w G.n).length → j ≤ (unkL S w G.n).length → C' (i * 7 + j) = aug G.W G.n Gn (unkL S w G.n) i j) noX := by
  have gG : ∀ C U k, isG v (eH v h q C U k) g G := fun C U k => eH_G hg hd
  have hl := unkL_len (S := S) hw
  have hlt := fun i => unkL_lt (S := S) hw i
  refine Cal.ofJ (by decide +kernel) rfl (Nat.le_of_ble_eq_true rfl) fun hz0 => ?_
  refine r_ls [some (.ref q), some (.ref g), some (.int (nI S)), some (.int (nI w)), some (.ref ga), none, none, none] rfl ?_
  refine r_aload_n (pc := 0) (i := 0) (tX1_build.at 0 rfl) rfl rfl ?_
  refine r_iconst (pc := 1) (w := nI 0) (tX1_build.at 1 rfl) (by decide) ?_
  refine r_put (pc := 2) (tX1_build.at 2 rfl) pf_X1_22 (eH_0) (Nat.le_of_ble_eq_true rfl) (rfl) (rfl) ?_
  refine r_eq (h2 := eH v h q C U 0) (eH_p0 _) rfl ?_
  refine r_iconst (pc := 5) (w := nI 0) (tX1_build.at 3 rfl) (by decide) ?_
  refine r_istore (pc := 6) (i := 5) (tX1_build.at 4 rfl) (by decide) ?_
  generalize hPost : (fun (r : Option Value) (h' : Hp) (top' : Nat) => r = none ∧ top = top' ∧ ∃ C' U', h' = eH v h q C' U' (unkL S w G.n).length ∧ ∀ i j, i < (unkL S w G.n).length → j ≤ (unkL S w G.n).length → C' (i * 7 + j) = aug G.W G.n Gn (unkL S w G.n) i j) = Po
  have key3 : ∀ i U, i < (unkL S w G.n).length → isL U (unkL S w G.n) → (∀ C o6 o7, (∀ r c, r < i + 1 → c ≤ (unkL S w G.n).length → C (r * 7 + c) = aug G.W G.n Gn (unkL S w G.n) r c) → J v mX1_build (rmOf 3 0 0) (KM v Po noX 0 0) top 0 0 (eH v h q C U (unkL S w G.n).length) top 91 [some (.ref q), some (.ref g), some (.int (nI S)), some (.int (nI w)), some (.ref ga), some (.int (nI (i + 1))), o6, o7] []) →
      ∀ m j C, j + m = (unkL S w G.n).length → (∀ r c, r < i → c ≤ (unkL S w G.n).length → C (r * 7 + c) = aug G.W G.n Gn (unkL S w G.n) r c) → (∀ c, c < j → C (i * 7 + c) = aug G.W G.n Gn (unkL S w G.n) i c) → J v mX1_build (rmOf 3 0 0) (KM v Po noX 0 0) top 0 0 (eH v h q C U (unkL S w G.n).length) top 112 [some (.ref q), some (.ref g), some (.int (nI S)), some (.int (nI w)), some (.ref ga), some (.int (nI i)), some (.int (nI ((unkL S w G.n).getD i 0))), some (.int (nI j))] [] := by
    intro i U hi hU nx m
    have hli := hlt i
    induction m with
    | zero =>
      intro j C hj hr hc
      have hj : j = (unkL S w G.n).length := by omega
      refine r_iload (pc := 112) (i := 7) (tX1_build.at 61 rfl) rfl ?_
      refine r_aload_n (pc := 114) (i := 0) (tX1_build.at 62 rfl) rfl rfl ?_
      refine r_get (pc := 115) (tX1_build.at 63 rfl) gf_X1_22 (eH_0) rfl ?_
      refine r_icmp_geN (pc := 118) 167 (tX1_build.at 64 rfl) (by decide) (by omega) (by omega) (fun _ => ?_) (fun c => by omega)
      refine r_aload_n (pc := 167) (i := 0) (tX1_build.at 88 rfl) rfl rfl ?_
      refine r_iload (pc := 168) (i := 5) (tX1_build.at 89 rfl) rfl ?_
      refine r_aload_n (pc := 170) (i := 0) (tX1_build.at 90 rfl) rfl rfl ?_
      refine r_get (pc := 171) (tX1_build.at 91 rfl) gf_X1_22 (eH_0) rfl ?_
      refine r_aload (pc := 174) (i := 4) (tX1_build.at 92 rfl) rfl ?_
      refine r_iload (pc := 176) (i := 6) (tX1_build.at 93 rfl) rfl ?_
      refine r_lald (pc := 178) (tX1_build.at 94 rfl) (hga _ _ _) ((unkL S w G.n).getD i 0) (rfl) (by omega) (Nat.le_of_ble_eq_true rfl) ?_
      refine r_callV (M' := mX1_putCell) (pc := 179) (tX1_build.at 95 rfl) ml_X1_64 rfl mw_X1_putCell ⟨by decide, by decide⟩ (eH_0) rfl rfl (c_putCell (x := Gn ((unkL S w G.n).getD i 0)) (by omega)) rfl rfl (Nat.le_of_ble_eq_true rfl) (Nat.le_of_ble_eq_true rfl) (Nat.le_of_ble_eq_true rfl) ?_
      rintro _ _ _ ⟨rfl, rfl, rfl⟩
      first | refine r_iincN (pc := 182) (tX1_build.at 96 rfl) rfl (by decide) ?_ | refine r_iinc (pc := 182) (tX1_build.at 96 rfl) rfl rfl (by decide) ?_
      refine r_goto (pc := 185) 91 (tX1_build.at 97 rfl) (by decide) ?_
      refine nx _ _ _ (fun r c h1 h2 => ?_)
      by_cases h3 : r = i
      · subst h3
        by_cases h4 : c = (unkL S w G.n).length
        · rw [h4, upZ_eq, aug, if_pos rfl]
        · rw [upZ_ne _ _ (by rw [ne_eq, w7 (by omega) (by omega)]; omega)]
          exact hc c (by omega)
      · rw [upZ_ne _ _ (by rw [ne_eq, w7 (by omega) (by omega)]; omega)]
        exact hr r c (by omega) h2
    | succ m ih =>
      intro j C hj hr hc
      have hlj := hlt j
      have hwb := hW ((unkL S w G.n).getD i 0 * 6 + (unkL S w G.n).getD j 0) (by omega)
      have hdg : degN G.W ((unkL S w G.n).getD i 0) G.n ≤ G.n * 1000000 := sN_le G.n (fun k hk => hW _ (by omega))
      have fin : ∀ x, x = aug G.W G.n Gn (unkL S w G.n) i j → (∀ r c, r < i → c ≤ (unkL S w G.n).length → upZ C (i * 7 + j) x (r * 7 + c) = aug G.W G.n Gn (unkL S w G.n) r c) ∧ (∀ c, c < j + 1 → upZ C (i * 7 + j) x (i * 7 + c) = aug G.W G.n Gn (unkL S w G.n) i c) := by
        intro x hx
        refine ⟨fun r c h1 h2 => ?_, fun c h1 => ?_⟩
        · rw [upZ_ne _ _ (by rw [ne_eq, w7 (by omega) (by omega)]; omega)]
          exact hr r c h1 h2
        · by_cases h3 : c = j
          · rw [h3, upZ_eq, hx]
          · rw [upZ_ne _ _ (by rw [ne_eq, w7 (by omega) (by omega)]; omega)]
            exact hc c (by omega)
      refine r_iload (pc := 112) (i := 7) (tX1_build.at 61 rfl) rfl ?_
      refine r_aload_n (pc := 114) (i := 0) (tX1_build.at 62 rfl) rfl rfl ?_
      refine r_get (pc := 115) (tX1_build.at 63 rfl) gf_X1_22 (eH_0) rfl ?_
      refine r_icmp_geN (pc := 118) 167 (tX1_build.at 64 rfl) (by decide) (by omega) (by omega) (fun c => by omega) (fun _ => ?_)
      refine r_aload_n (pc := 121) (i := 0) (tX1_build.at 65 rfl) rfl rfl ?_
      refine r_iload (pc := 122) (i := 5) (tX1_build.at 66 rfl) rfl ?_
      refine r_iload (pc := 124) (i := 7) (tX1_build.at 67 rfl) rfl ?_
      refine r_iload (pc := 126) (i := 5) (tX1_build.at 68 rfl) rfl ?_
      refine r_iload (pc := 128) (i := 7) (tX1_build.at 69 rfl) rfl ?_
      refine r_icmp_neN (pc := 130) 143 (tX1_build.at 70 rfl) (by decide) (by omega) (by omega) (fun c1 => ?_) (fun c1 => ?_)
      · refine r_aload_n (pc := 143) (i := 1) (tX1_build.at 76 rfl) rfl rfl ?_
        refine r_iload (pc := 144) (i := 6) (tX1_build.at 77 rfl) rfl ?_
        refine r_aload_n (pc := 146) (i := 0) (tX1_build.at 78 rfl) rfl rfl ?_
        refine r_get (pc := 147) (tX1_build.at 79 rfl) gf_X1_15 (eH_0) rfl ?_
        refine r_iload (pc := 150) (i := 7) (tX1_build.at 80 rfl) rfl ?_
        refine r_iald (pc := 152) (tX1_build.at 81 rfl) (eH_2) (j) (rfl) (by omega) (Nat.le_of_ble_eq_true rfl) ?_
        rw [show iF U j = nI ((unkL S w G.n).getD j 0) by rw [← hU j (by omega)]; rfl]
        refine r_callV (M' := mX3_weightBetween) (pc := 153) (tX1_build.at 82 rfl) ml_X1_60 rfl mw_X3_weightBetween ⟨by decide, by decide⟩ ((gG _ _ _).1) rfl rfl (c_wb (gG _ _ _) (by omega)) rfl rfl (Nat.le_of_ble_eq_true rfl) (Nat.le_of_ble_eq_true rfl) (Nat.le_of_ble_eq_true rfl) ?_
        rintro _ _ _ ⟨rfl, rfl, rfl⟩
        first | refine r_inegN (pc := 156) (tX1_build.at 83 rfl) ?_ | refine r_inegZ (pc := 156) (tX1_build.at 83 rfl) ?_ | refine r_ineg (pc := 156) (tX1_build.at 83 rfl) ?_
        first | refine r_i2lN (pc := 157) (tX1_build.at 84 rfl) (by omega) ?_ | refine r_i2lZ (pc := 157) (tX1_build.at 84 rfl) ⟨by omega, by omega⟩ ?_ | refine r_i2l (pc := 157) (tX1_build.at 84 rfl) ?_
        obtain ⟨f1, f2⟩ := fin (-((G.W ((unkL S w G.n).getD i 0 * 6 + (unkL S w G.n).getD j 0) : Nat) : Int)) (by rw [aug, if_neg (by omega), if_neg c1])
        refine r_callV (M' := mX1_putCell) (pc := 158) (tX1_build.at 85 rfl) ml_X1_64 rfl mw_X1_putCell ⟨by decide, by decide⟩ (eH_0) rfl rfl (c_putCell (i := i) (j := j) (by omega)) rfl rfl (Nat.le_of_ble_eq_true rfl) (Nat.le_of_ble_eq_true rfl) (Nat.le_of_ble_eq_true rfl) ?_
        rintro _ _ _ ⟨rfl, rfl, rfl⟩
        first | refine r_iincN (pc := 161) (tX1_build.at 86 rfl) rfl (by decide) ?_ | refine r_iinc (pc := 161) (tX1_build.at 86 rfl) rfl rfl (by decide) ?_
        refine r_goto (pc := 164) 112 (tX1_build.at 87 rfl) (by decide) ?_
        exact ih (j + 1) _ (by omega) f1 f2
      · subst c1
        obtain ⟨f1, f2⟩ := fin ((degN G.W ((unkL S w G.n).getD i 0) G.n : Nat) : Int) (by rw [aug, if_neg (by omega), if_pos rfl])
        refine r_aload_n (pc := 133) (i := 1) (tX1_build.at 71 rfl) rfl rfl ?_
        refine r_iload (pc := 134) (i := 6) (tX1_build.at 72 rfl) rfl ?_
        refine r_callV (M' := mX3_sumOfWeights) (pc := 136) (tX1_build.at 73 rfl) ml_X1_57 rfl mw_X3_sumOfWeights ⟨by decide, by decide⟩ ((gG _ _ _).1) rfl rfl (c_sow (gG _ _ _) hn (by omega)) rfl rfl (Nat.le_of_ble_eq_true rfl) (Nat.le_of_ble_eq_true rfl) (Nat.le_of_ble_eq_true rfl) ?_
        rintro _ _ _ ⟨rfl, rfl, rfl⟩
        first | refine r_i2lN (pc := 139) (tX1_build.at 74 rfl) (by omega) ?_ | refine r_i2l (pc := 139) (tX1_build.at 74 rfl) ?_
        refine r_goto (pc := 140) 158 (tX1_build.at 75 rfl) (by decide) ?_
        refine r_callV (M' := mX1_putCell) (pc := 158) (tX1_build.at 85 rfl) ml_X1_64 rfl mw_X1_putCell ⟨by decide, by decide⟩ (eH_0) rfl rfl (c_putCell (i := i) (j := i) (by omega)) rfl rfl (Nat.le_of_ble_eq_true rfl) (Nat.le_of_ble_eq_true rfl) (Nat.le_of_ble_eq_true rfl) ?_
        rintro _ _ _ ⟨rfl, rfl, rfl⟩
        first | refine r_iincN (pc := 161) (tX1_build.at 86 rfl) rfl (by decide) ?_ | refine r_iinc (pc := 161) (tX1_build.at 86 rfl) rfl rfl (by decide) ?_
        refine r_goto (pc := 164) 112 (tX1_build.at 87 rfl) (by decide) ?_
        exact ih (i + 1) _ (by omega) f1 f2
  have key2 : ∀ U, isL U (unkL S w G.n) → ∀ m i C o6 o7, i + m = (unkL S w G.n).length → (∀ r c, r < i → c ≤ (unkL S w G.n).length → C (r * 7 + c) = aug G.W G.n Gn (unkL S w G.n) r c) → J v mX1_build (rmOf 3 0 0) (KM v Po noX 0 0) top 0 0 (eH v h q C U (unkL S w G.n).length) top 91 [some (.ref q), some (.ref g), some (.int (nI S)), some (.int (nI w)), some (.ref ga), some (.int (nI i)), o6, o7] [] := by
    intro U hU m
    induction m with
    | zero =>
      intro i C o6 o7 hi hr
      refine r_iload (pc := 91) (i := 5) (tX1_build.at 50 rfl) rfl ?_
      refine r_aload_n (pc := 93) (i := 0) (tX1_build.at 51 rfl) rfl rfl ?_
      refine r_get (pc := 94) (tX1_build.at 52 rfl) gf_X1_22 (eH_0) rfl ?_
      refine r_icmp_geN (pc := 97) 188 (tX1_build.at 53 rfl) (by decide) (by omega) (by omega) (fun _ => ?_) (fun c => by omega)
      refine r_vret (pc := 188) (tX1_build.at 98 rfl) rfl (Nat.le_of_ble_eq_true rfl) (Nat.le_of_ble_eq_true rfl) ?_
      subst hPost
      exact ⟨rfl, rfl, C, U, rfl, fun i j h1 h2 => hr i j (by omega) h2⟩
    | succ m ih =>
      intro i C o6 o7 hi hr
      refine r_iload (pc := 91) (i := 5) (tX1_build.at 50 rfl) rfl ?_
      refine r_aload_n (pc := 93) (i := 0) (tX1_build.at 51 rfl) rfl rfl ?_
      refine r_get (pc := 94) (tX1_build.at 52 rfl) gf_X1_22 (eH_0) rfl ?_
      refine r_icmp_geN (pc := 97) 188 (tX1_build.at 53 rfl) (by decide) (by omega) (by omega) (fun c => by omega) (fun _ => ?_)
      refine r_aload_n (pc := 100) (i := 0) (tX1_build.at 54 rfl) rfl rfl ?_
      refine r_get (pc := 101) (tX1_build.at 55 rfl) gf_X1_15 (eH_0) rfl ?_
      refine r_iload (pc := 104) (i := 5) (tX1_build.at 56 rfl) rfl ?_
      refine r_iald (pc := 106) (tX1_build.at 57 rfl) (eH_2) (i) (rfl) (by omega) (Nat.le_of_ble_eq_true rfl) ?_
      rw [show iF U i = nI ((unkL S w G.n).getD i 0) by rw [← hU i (by omega)]; rfl]
      refine r_istore (pc := 107) (i := 6) (tX1_build.at 58 rfl) (by decide) ?_
      refine r_iconst (pc := 109) (w := nI 0) (tX1_build.at 59 rfl) (by decide) ?_
      refine r_istore (pc := 110) (i := 7) (tX1_build.at 60 rfl) (by decide) ?_
      exact key3 i U (by omega) hU (fun C o6 o7 hC => ih (i + 1) C o6 o7 (by omega) hC) (unkL S w G.n).length 0 C (by omega) hr (fun c hc => by omega)
  have key1 : ∀ m u U, u + m = G.n → isL U (ordL S w u) → J v mX1_build (rmOf 3 0 0) (KM v Po noX 0 0) top 0 0 (eH v h q C U (ordL S w u).length) top 8 [some (.ref q), some (.ref g), some (.int (nI S)), some (.int (nI w)), some (.ref ga), some (.int (nI u)), none, none] [] := by
    intro m
    induction m with
    | zero =>
      intro u U hu hU
      have hu : u = G.n := by omega
      subst hu
      have hll : (unkL S w G.n).length = (ordL S w G.n).length + 1 := by unfold unkL; rw [List.length_append]; rfl
      refine r_iload (pc := 8) (i := 5) (tX1_build.at 5 rfl) rfl ?_
      refine r_aload_n (pc := 10) (i := 1) (tX1_build.at 6 rfl) rfl rfl ?_
      refine r_get (pc := 11) (tX1_build.at 7 rfl) gf_X1_54 ((gG _ _ _).1) rfl ?_
      refine r_icmp_geN (pc := 14) 59 (tX1_build.at 8 rfl) (by decide) (by omega) (by omega) (fun _ => ?_) (fun c => by omega)
      refine r_aload_n (pc := 59) (i := 0) (tX1_build.at 32 rfl) rfl rfl ?_
      refine r_get (pc := 60) (tX1_build.at 33 rfl) gf_X1_22 (eH_0) rfl ?_
      refine r_bipush (pc := 63) (w := nI 6) (tX1_build.at 34 rfl) (by decide) ?_
      refine r_icmp_geN (pc := 65) 88 (tX1_build.at 35 rfl) (by decide) (by omega) (by omega) (fun c => by omega) (fun _ => ?_)
      refine r_aload_n (pc := 68) (i := 0) (tX1_build.at 36 rfl) rfl rfl ?_
      refine r_get (pc := 69) (tX1_build.at 37 rfl) gf_X1_15 (eH_0) rfl ?_
      refine r_aload_n (pc := 72) (i := 0) (tX1_build.at 38 rfl) rfl rfl ?_
      refine r_get (pc := 73) (tX1_build.at 39 rfl) gf_X1_22 (eH_0) rfl ?_
      refine r_iload_n (pc := 76) (i := 3) (tX1_build.at 40 rfl) rfl rfl ?_
      refine r_iast (pc := 77) (tX1_build.at 41 rfl) (eH_2) ((ordL S w G.n).length) (rfl) (by omega) (Nat.le_of_ble_eq_true rfl) ?_
      rw [upd_iF, eH_p2]
      refine r_aload_n (pc := 78) (i := 0) (tX1_build.at 42 rfl) rfl rfl ?_
      refine r_dup (pc := 79) (tX1_build.at 43 rfl) rfl ?_
      refine r_get (pc := 80) (tX1_build.at 44 rfl) gf_X1_22 (eH_0) rfl ?_
      refine r_iconst (pc := 83) (w := nI 1) (tX1_build.at 45 rfl) (by decide) ?_
      first | refine r_iaddN (pc := 84) (tX1_build.at 46 rfl) ?_ | refine r_iadd (pc := 84) (tX1_build.at 46 rfl) ?_
      refine r_put (pc := 85) (tX1_build.at 47 rfl) pf_X1_22 (eH_0) (Nat.le_of_ble_eq_true rfl) (rfl) (rfl) ?_
      refine r_eq (h2 := eH v h q C (upN U (ordL S w G.n).length w) (unkL S w G.n).length) (by rw [hll]; exact eH_p0 _) rfl ?_
      refine r_iconst (pc := 88) (w := nI 0) (tX1_build.at 48 rfl) (by decide) ?_
      refine r_istore (pc := 89) (i := 5) (tX1_build.at 49 rfl) (by decide) ?_
      exact key2 _ (hU.push w) (unkL S w G.n).length 0 C none none (by omega) (fun r c h1 h2 => by omega)
    | succ m ih =>
      intro u U hu hU
      have hle := ordL_len S w u
      have hsm : (ordL S w u).length < 6 := by omega
      refine r_iload (pc := 8) (i := 5) (tX1_build.at 5 rfl) rfl ?_
      refine r_aload_n (pc := 10) (i := 1) (tX1_build.at 6 rfl) rfl rfl ?_
      refine r_get (pc := 11) (tX1_build.at 7 rfl) gf_X1_54 ((gG _ _ _).1) rfl ?_
      refine r_icmp_geN (pc := 14) 59 (tX1_build.at 8 rfl) (by decide) (by omega) (by omega) (fun c => by omega) (fun _ => ?_)
      refine r_iload (pc := 17) (i := 5) (tX1_build.at 9 rfl) rfl ?_
      refine r_iload_n (pc := 19) (i := 3) (tX1_build.at 10 rfl) rfl rfl ?_
      refine r_icmp_eqN (pc := 20) 53 (tX1_build.at 11 rfl) (by decide) (by omega) (by omega) (fun c1 => ?_) (fun c1 => ?_)
      · first | refine r_iincN (pc := 53) (tX1_build.at 30 rfl) rfl (by decide) ?_ | refine r_iinc (pc := 53) (tX1_build.at 30 rfl) rfl rfl (by decide) ?_
        refine r_goto (pc := 56) 8 (tX1_build.at 31 rfl) (by decide) ?_
        have hE : ordL S w (u + 1) = ordL S w u := by rw [ordL, if_neg (by omega)]
        have nx := ih (u + 1) U (by omega) (by rw [hE]; exact hU)
        rw [hE] at nx
        exact nx
      · refine r_iload_n (pc := 23) (i := 2) (tX1_build.at 12 rfl) rfl rfl ?_
        refine r_iload (pc := 24) (i := 5) (tX1_build.at 13 rfl) rfl ?_
        refine r_ishr (pc := 26) (tX1_build.at 14 rfl) ?_
        refine r_iconst (pc := 27) (w := nI 1) (tX1_build.at 15 rfl) (by decide) ?_
        refine r_iand (pc := 28) (tX1_build.at 16 rfl) ?_
        rw [bs_sh _ hS u (by omega)]
        have hb : Bool.toNat (S.testBit u) ≤ 1 := Bool.toNat_le _
        refine r_if_eqN (pc := 29) 53 (tX1_build.at 17 rfl) (by decide) (by omega) (fun c2 => ?_) (fun c2 => ?_)
        · first | refine r_iincN (pc := 53) (tX1_build.at 30 rfl) rfl (by decide) ?_ | refine r_iinc (pc := 53) (tX1_build.at 30 rfl) rfl rfl (by decide) ?_
          refine r_goto (pc := 56) 8 (tX1_build.at 31 rfl) (by decide) ?_
          have hE : ordL S w (u + 1) = ordL S w u := by rw [ordL, if_neg (by intro z; rw [z.2] at c2; cases c2)]
          have nx := ih (u + 1) U (by omega) (by rw [hE]; exact hU)
          rw [hE] at nx
          exact nx
        · have hE : ordL S w (u + 1) = ordL S w u ++ [u] := by rw [ordL, if_pos ⟨c1, by cases q : S.testBit u <;> simp_all⟩]
          have nx := ih (u + 1) (upN U (ordL S w u).length u) (by omega) (by rw [hE]; exact hU.push u)
          rw [hE, List.length_append] at nx
          refine r_aload_n (pc := 32) (i := 0) (tX1_build.at 18 rfl) rfl rfl ?_
          refine r_get (pc := 33) (tX1_build.at 19 rfl) gf_X1_15 (eH_0) rfl ?_
          refine r_aload_n (pc := 36) (i := 0) (tX1_build.at 20 rfl) rfl rfl ?_
          refine r_get (pc := 37) (tX1_build.at 21 rfl) gf_X1_22 (eH_0) rfl ?_
          refine r_iload (pc := 40) (i := 5) (tX1_build.at 22 rfl) rfl ?_
          refine r_iast (pc := 42) (tX1_build.at 23 rfl) (eH_2) ((ordL S w u).length) (rfl) (by omega) (Nat.le_of_ble_eq_true rfl) ?_
          rw [upd_iF, eH_p2]
          refine r_aload_n (pc := 43) (i := 0) (tX1_build.at 24 rfl) rfl rfl ?_
          refine r_dup (pc := 44) (tX1_build.at 25 rfl) rfl ?_
          refine r_get (pc := 45) (tX1_build.at 26 rfl) gf_X1_22 (eH_0) rfl ?_
          refine r_iconst (pc := 48) (w := nI 1) (tX1_build.at 27 rfl) (by decide) ?_
          first | refine r_iaddN (pc := 49) (tX1_build.at 28 rfl) ?_ | refine r_iadd (pc := 49) (tX1_build.at 28 rfl) ?_
          refine r_put (pc := 50) (tX1_build.at 29 rfl) pf_X1_22 (eH_0) (Nat.le_of_ble_eq_true rfl) (rfl) (rfl) ?_
          refine r_eq (h2 := eH v h q C (upN U (ordL S w u).length u) ((ordL S w u).length + [u].length)) (eH_p0 _) rfl ?_
          first | refine r_iincN (pc := 53) (tX1_build.at 30 rfl) rfl (by decide) ?_ | refine r_iinc (pc := 53) (tX1_build.at 30 rfl) rfl rfl (by decide) ?_
          refine r_goto (pc := 56) 8 (tX1_build.at 31 rfl) (by decide) ?_
          exact nx
  exact key1 G.n 0 U (by omega) (fun i hi => by simp [ordL] at hi)
end
section
/-! ===== Equations: the elimination ===== -/
/-- the cells after k steps -/
def elm (A : Nat → Nat → Int) : Nat → Nat → Nat → Int
  | 0, i, j => A i j
  | k + 1, i, j => if k < i ∧ k < j then (elm A k i j * elm A k k k - elm A k i k * elm A k k j).tdiv (match k with | 0 => 1 | t + 1 => elm A t t t) else elm A k i j
def pvt (A : Nat → Nat → Int) : Nat → Int
  | 0 => 1
  | k + 1 => elm A k k k
theorem elm_s (A : Nat → Nat → Int) (k i j : Nat) : elm A (k + 1) i j = if k < i ∧ k < j then (elm A k i j * elm A k k k - elm A k i k * elm A k k j).tdiv (pvt A k) else elm A k i j := by
  cases k <;> rfl
/-- all that is reckoned lies among the longs -/
def okA (A : Nat → Nat → Int) (m : Nat) : Prop :=
  (∀ k, k < m → (∀ t, t < k → elm A t t t ≠ 0) → inL (elm A k k k)) ∧
  (∀ k, k < m → (∀ t, t ≤ k → elm A t t t ≠ 0) → ∀ i j, k < i → i < m → k < j → j ≤ m → inL (elm A k i j * elm A k k k - elm A k i k * elm A k k j)) ∧
  ((∀ t, t < m → elm A t t t ≠ 0) → 0 < elm A m (m - 1) (m - 1) ∧ elm A m (m - 1) (m - 1) ≤ 9223372036854775807) ∧
  ((∀ t, t < m → elm A t t t ≠ 0) → -9223372036854775807 ≤ elm A m (m - 1) m ∧ elm A m (m - 1) m ≤ 9223372036854775807)
theorem c_elim {v : Ev} {h : Hp} {top q m : Nat} {C : Nat → Int} {U : Nat → Nat} {A : Nat → Nat → Int} (hm : m ≤ 6) (hA : ∀ i j, i < m → j ≤ m → C (i * 7 + j) = A i j) (ok : okA A m) :
    Cal v mX1_eliminate 2 0 0 [.ref q] (eH v h q C U m) top (fun r h' top' => top = top' ∧ ∃ C', h' = eH v h q C' U m ∧ ((r = some (.int (nI 1)) ∧ (∀ t, t < m → elm A t t t ≠ 0) ∧ ∀ i j, i < m → j ≤ m → C' (i * 7 + j) = elm A m i j) ∨ (r = some (.int (nI 0)) ∧ ∃ t, t < m ∧ elm A t t t = 0))) noX := by
  refine Cal.ofJ (by decide +kernel) rfl (Nat.le_of_ble_eq_true rfl) fun hz0 => ?_
  refine r_ls [some (.ref q), none, none, none, none, none, none, none, none, none] rfl ?_
  refine r_lconst (pc := 0) (w := lI 1) (tX1_eliminate.at 0 rfl) (by decide) ?_
  refine r_lstore_n (pc := 1) (i := 1) (tX1_eliminate.at 1 rfl) rfl (by decide) ?_
  refine r_iconst (pc := 2) (w := nI 0) (tX1_eliminate.at 2 rfl) (by decide) ?_
  refine r_istore_n (pc := 3) (i := 3) (tX1_eliminate.at 3 rfl) rfl (by decide) ?_
  generalize hPost : (fun (r : Option Value) (h' : Hp) (top' : Nat) => top = top' ∧ ∃ C', h' = eH v h q C' U m ∧ ((r = some (.int (nI 1)) ∧ (∀ t, t < m → elm A t t t ≠ 0) ∧ ∀ i j, i < m → j ≤ m → C' (i * 7 + j) = elm A m i j) ∨ (r = some (.int (nI 0)) ∧ ∃ t, t < m ∧ elm A t t t = 0))) = Po
  -- the cells within a row
  have key3 : ∀ k, k < m → (∀ t, t ≤ k → elm A t t t ≠ 0) → inL (pvt A k) → pvt A k ≠ 0 → ∀ i, k < i → i < m → (∀ C o7 o9, (∀ r c, r < m → c ≤ m → C (r * 7 + c) = if r < i + 1 then elm A (k + 1) r c else elm A k r c) → J v mX1_eliminate (rmOf 2 0 0) (KM v Po noX 0 0) top 0 0 (eH v h q C U m) top 40 [some (.ref q), some (.long (lI (pvt A k))), none, some (.int (nI k)), some (.long (lI (elm A k k k))), none, some (.int (nI (i + 1))), o7, none, o9] []) →
      ∀ n j C, j + n = m + 1 → k < j → (∀ r c, r < m → c ≤ m → C (r * 7 + c) = if r < i ∨ (r = i ∧ c < j) then elm A (k + 1) r c else elm A k r c) → J v mX1_eliminate (rmOf 2 0 0) (KM v Po noX 0 0) top 0 0 (eH v h q C U m) top 63 [some (.ref q), some (.long (lI (pvt A k))), none, some (.int (nI k)), some (.long (lI (elm A k k k))), none, some (.int (nI i)), some (.long (lI (elm A k i k))), none, some (.int (nI j))] [] := by
    intro k hk hp hpv hp0 i hki hi nx n
    induction n with
    | zero =>
      intro j C hj hkj hC
      have hj : j = m + 1 := by omega
      subst hj
      refine r_iload (pc := 63) (i := 9) (tX1_eliminate.at 40 rfl) rfl ?_
      refine r_aload_n (pc := 65) (i := 0) (tX1_eliminate.at 41 rfl) rfl rfl ?_
      refine r_get (pc := 66) (tX1_eliminate.at 42 rfl) gf_X1_22 (eH_0) rfl ?_
      refine r_icmp_gtN (pc := 69) 110 (tX1_eliminate.at 43 rfl) (by decide) (by omega) (by omega) (fun _ => ?_) (fun c => by omega)
      first | refine r_iincN (pc := 110) (tX1_eliminate.at 65 rfl) rfl (by decide) ?_ | refine r_iinc (pc := 110) (tX1_eliminate.at 65 rfl) rfl rfl (by decide) ?_
      refine r_goto (pc := 113) 40 (tX1_eliminate.at 66 rfl) (by decide) ?_
      refine nx C _ _ (fun r c h1 h2 => ?_)
      rw [hC r c h1 h2]
      by_cases h3 : r < i + 1
      · rw [if_pos h3, if_pos (by omega)]
      · rw [if_neg h3, if_neg (by omega)]
    | succ n ih =>
      intro j C hj hkj hC
      have e1 : C (i * 7 + j) = elm A k i j := by rw [hC i j hi (by omega), if_neg (by omega)]
      have e2 : C (k * 7 + j) = elm A k k j := by rw [hC k j hk (by omega), if_pos (by omega), elm_s, if_neg (by omega)]
      have e3 := ok.2.1 k hk hp i j hki hi hkj (by omega)
      refine r_iload (pc := 63) (i := 9) (tX1_eliminate.at 40 rfl) rfl ?_
      refine r_aload_n (pc := 65) (i := 0) (tX1_eliminate.at 41 rfl) rfl rfl ?_
      refine r_get (pc := 66) (tX1_eliminate.at 42 rfl) gf_X1_22 (eH_0) rfl ?_
      refine r_icmp_gtN (pc := 69) 110 (tX1_eliminate.at 43 rfl) (by decide) (by omega) (by omega) (fun c => by omega) (fun _ => ?_)
      refine r_aload_n (pc := 72) (i := 0) (tX1_eliminate.at 44 rfl) rfl rfl ?_
      refine r_iload (pc := 73) (i := 6) (tX1_eliminate.at 45 rfl) rfl ?_
      refine r_iload (pc := 75) (i := 9) (tX1_eliminate.at 46 rfl) rfl ?_
      refine r_aload_n (pc := 77) (i := 0) (tX1_eliminate.at 47 rfl) rfl rfl ?_
      refine r_iload (pc := 78) (i := 6) (tX1_eliminate.at 48 rfl) rfl ?_
      refine r_iload (pc := 80) (i := 9) (tX1_eliminate.at 49 rfl) rfl ?_
      refine r_callV (M' := mX1_cell) (pc := 82) (tX1_eliminate.at 50 rfl) ml_X1_50 rfl mw_X1_cell ⟨by decide, by decide⟩ (eH_0) rfl rfl (c_cell (by omega)) rfl rfl (Nat.le_of_ble_eq_true rfl) (Nat.le_of_ble_eq_true rfl) (Nat.le_of_ble_eq_true rfl) ?_
      rintro _ _ _ ⟨rfl, rfl, rfl⟩
      rw [e1]
      refine r_lload (pc := 85) (i := 4) (tX1_eliminate.at 51 rfl) rfl ?_
      first | refine r_lmulL (pc := 87) (tX1_eliminate.at 52 rfl) ?_ | refine r_lmul (pc := 87) (tX1_eliminate.at 52 rfl) ?_
      refine r_lload (pc := 88) (i := 7) (tX1_eliminate.at 53 rfl) rfl ?_
      refine r_aload_n (pc := 90) (i := 0) (tX1_eliminate.at 54 rfl) rfl rfl ?_
      refine r_iload_n (pc := 91) (i := 3) (tX1_eliminate.at 55 rfl) rfl rfl ?_
      refine r_iload (pc := 92) (i := 9) (tX1_eliminate.at 56 rfl) rfl ?_
      refine r_callV (M' := mX1_cell) (pc := 94) (tX1_eliminate.at 57 rfl) ml_X1_50 rfl mw_X1_cell ⟨by decide, by decide⟩ (eH_0) rfl rfl (c_cell (by omega)) rfl rfl (Nat.le_of_ble_eq_true rfl) (Nat.le_of_ble_eq_true rfl) (Nat.le_of_ble_eq_true rfl) ?_
      rintro _ _ _ ⟨rfl, rfl, rfl⟩
      rw [e2]
      first | refine r_lmulL (pc := 97) (tX1_eliminate.at 58 rfl) ?_ | refine r_lmul (pc := 97) (tX1_eliminate.at 58 rfl) ?_
      first | refine r_lsubL (pc := 98) (tX1_eliminate.at 59 rfl) ?_ | refine r_lsub (pc := 98) (tX1_eliminate.at 59 rfl) ?_
      refine r_lload_n (pc := 99) (i := 1) (tX1_eliminate.at 60 rfl) rfl rfl ?_
      refine r_ldivL (pc := 100) (tX1_eliminate.at 61 rfl) (e3) (hpv) (hp0) ?_
      refine r_callV (M' := mX1_putCell) (pc := 101) (tX1_eliminate.at 62 rfl) ml_X1_64 rfl mw_X1_putCell ⟨by decide, by decide⟩ (eH_0) rfl rfl (c_putCell (i := i) (j := j) (by omega)) rfl rfl (Nat.le_of_ble_eq_true rfl) (Nat.le_of_ble_eq_true rfl) (Nat.le_of_ble_eq_true rfl) ?_
      rintro _ _ _ ⟨rfl, rfl, rfl⟩
      first | refine r_iincN (pc := 104) (tX1_eliminate.at 63 rfl) rfl (by decide) ?_ | refine r_iinc (pc := 104) (tX1_eliminate.at 63 rfl) rfl rfl (by decide) ?_
      refine r_goto (pc := 107) 63 (tX1_eliminate.at 64 rfl) (by decide) ?_
      refine ih (j + 1) _ (by omega) (by omega) (fun r c h1 h2 => ?_)
      by_cases h3 : r = i ∧ c = j
      · obtain ⟨rfl, rfl⟩ := h3
        rw [upZ_eq, if_pos (by omega), elm_s, if_pos ⟨hki, hkj⟩]
      · rw [upZ_ne _ _ (by rw [ne_eq, w7 (by omega) (by omega)]; omega), hC r c h1 h2]
        by_cases h4 : r < i ∨ (r = i ∧ c < j)
        · rw [if_pos h4, if_pos (by omega)]
        · rw [if_neg h4, if_neg (by omega)]
  -- the rows below the pivot's
  have key2 : ∀ k, k < m → (∀ t, t ≤ k → elm A t t t ≠ 0) → inL (pvt A k) → pvt A k ≠ 0 → (∀ C o6 o7 o9, (∀ r c, r < m → c ≤ m → C (r * 7 + c) = elm A (k + 1) r c) → J v mX1_eliminate (rmOf 2 0 0) (KM v Po noX 0 0) top 0 0 (eH v h q C U m) top 4 [some (.ref q), some (.long (lI (pvt A (k + 1)))), none, some (.int (nI (k + 1))), some (.long (lI (elm A k k k))), none, o6, o7, none, o9] []) →
      ∀ n i C o7 o9, i + n = m → k < i → (∀ r c, r < m → c ≤ m → C (r * 7 + c) = if r < i then elm A (k + 1) r c else elm A k r c) → J v mX1_eliminate (rmOf 2 0 0) (KM v Po noX 0 0) top 0 0 (eH v h q C U m) top 40 [some (.ref q), some (.long (lI (pvt A k))), none, some (.int (nI k)), some (.long (lI (elm A k k k))), none, some (.int (nI i)), o7, none, o9] [] := by
    intro k hk hp hpv hp0 nx n
    induction n with
    | zero =>
      intro i C o7 o9 hi hki hC
      have hi : i = m := by omega
      subst hi
      refine r_iload (pc := 40) (i := 6) (tX1_eliminate.at 27 rfl) rfl ?_
      refine r_aload_n (pc := 42) (i := 0) (tX1_eliminate.at 28 rfl) rfl rfl ?_
      refine r_get (pc := 43) (tX1_eliminate.at 29 rfl) gf_X1_22 (eH_0) rfl ?_
      refine r_icmp_geN (pc := 46) 116 (tX1_eliminate.at 30 rfl) (by decide) (by omega) (by omega) (fun _ => ?_) (fun c => by omega)
      refine r_lload (pc := 116) (i := 4) (tX1_eliminate.at 67 rfl) rfl ?_
      refine r_lstore_n (pc := 118) (i := 1) (tX1_eliminate.at 68 rfl) rfl (by decide) ?_
      first | refine r_iincN (pc := 119) (tX1_eliminate.at 69 rfl) rfl (by decide) ?_ | refine r_iinc (pc := 119) (tX1_eliminate.at 69 rfl) rfl rfl (by decide) ?_
      refine r_goto (pc := 122) 4 (tX1_eliminate.at 70 rfl) (by decide) ?_
      exact nx C _ _ _ (fun r c h1 h2 => by rw [hC r c h1 h2, if_pos h1])
    | succ n ih =>
      intro i C o7 o9 hi hki hC
      have e1 : C (i * 7 + k) = elm A k i k := by rw [hC i k (by omega) (by omega), if_neg (by omega)]
      refine r_iload (pc := 40) (i := 6) (tX1_eliminate.at 27 rfl) rfl ?_
      refine r_aload_n (pc := 42) (i := 0) (tX1_eliminate.at 28 rfl) rfl rfl ?_
      refine r_get (pc := 43) (tX1_eliminate.at 29 rfl) gf_X1_22 (eH_0) rfl ?_
      refine r_icmp_geN (pc := 46) 116 (tX1_eliminate.at 30 rfl) (by decide) (by omega) (by omega) (fun c => by omega) (fun _ => ?_)
      refine r_aload_n (pc := 49) (i := 0) (tX1_eliminate.at 31 rfl) rfl rfl ?_
      refine r_iload (pc := 50) (i := 6) (tX1_eliminate.at 32 rfl) rfl ?_
      refine r_iload_n (pc := 52) (i := 3) (tX1_eliminate.at 33 rfl) rfl rfl ?_
      refine r_callV (M' := mX1_cell) (pc := 53) (tX1_eliminate.at 34 rfl) ml_X1_50 rfl mw_X1_cell ⟨by decide, by decide⟩ (eH_0) rfl rfl (c_cell (by omega)) rfl rfl (Nat.le_of_ble_eq_true rfl) (Nat.le_of_ble_eq_true rfl) (Nat.le_of_ble_eq_true rfl) ?_
      rintro _ _ _ ⟨rfl, rfl, rfl⟩
      rw [e1]
      refine r_lstore (pc := 56) (i := 7) (tX1_eliminate.at 35 rfl) (by decide) ?_
      refine r_iload_n (pc := 58) (i := 3) (tX1_eliminate.at 36 rfl) rfl rfl ?_
      refine r_iconst (pc := 59) (w := nI 1) (tX1_eliminate.at 37 rfl) (by decide) ?_
      first | refine r_iaddN (pc := 60) (tX1_eliminate.at 38 rfl) ?_ | refine r_iaddZ (pc := 60) (tX1_eliminate.at 38 rfl) ?_ | refine r_iadd (pc := 60) (tX1_eliminate.at 38 rfl) ?_
      refine r_istore (pc := 61) (i := 9) (tX1_eliminate.at 39 rfl) (by decide) ?_
      refine key3 k hk hp hpv hp0 i hki (by omega) (fun C o7 o9 hC => ih (i + 1) C o7 o9 (by omega) (by omega) hC) (m - k) (k + 1) C (by omega) (by omega) (fun r c h1 h2 => ?_)
      rw [hC r c h1 h2]
      by_cases h3 : r < i
      · rw [if_pos h3, if_pos (Or.inl h3)]
      · rw [if_neg h3]
        split
        · rw [elm_s, if_neg (by omega)]
        · rfl
  have key1 : ∀ n k C o4 o6 o7 o9, k + n = m → (∀ t, t < k → elm A t t t ≠ 0) → inL (pvt A k) → pvt A k ≠ 0 → (∀ r c, r < m → c ≤ m → C (r * 7 + c) = elm A k r c) → J v mX1_eliminate (rmOf 2 0 0) (KM v Po noX 0 0) top 0 0 (eH v h q C U m) top 4 [some (.ref q), some (.long (lI (pvt A k))), none, some (.int (nI k)), o4, none, o6, o7, none, o9] [] := by
    intro n
    induction n with
    | zero =>
      intro k C o4 o6 o7 o9 hk hp hpv hp0 hC
      have hk : k = m := by omega
      subst hk
      refine r_iload_n (pc := 4) (i := 3) (tX1_eliminate.at 4 rfl) rfl rfl ?_
      refine r_aload_n (pc := 5) (i := 0) (tX1_eliminate.at 5 rfl) rfl rfl ?_
      refine r_get (pc := 6) (tX1_eliminate.at 6 rfl) gf_X1_22 (eH_0) rfl ?_
      refine r_icmp_geN (pc := 9) 125 (tX1_eliminate.at 7 rfl) (by decide) (by omega) (by omega) (fun _ => ?_) (fun c => by omega)
      refine r_iconst (pc := 125) (w := nI 1) (tX1_eliminate.at 71 rfl) (by decide) ?_
      refine r_zret (pc := 126) (tX1_eliminate.at 72 rfl) rfl (rfl) (Nat.le_of_ble_eq_true rfl) (Nat.le_of_ble_eq_true rfl) ?_
      subst hPost
      exact ⟨rfl, C, rfl, Or.inl ⟨rfl, hp, hC⟩⟩
    | succ n ih =>
      intro k C o4 o6 o7 o9 hk hp hpv hp0 hC
      have e1 : C (k * 7 + k) = elm A k k k := hC k k (by omega) (by omega)
      have e2 := ok.1 k (by omega) hp
      refine r_iload_n (pc := 4) (i := 3) (tX1_eliminate.at 4 rfl) rfl rfl ?_
      refine r_aload_n (pc := 5) (i := 0) (tX1_eliminate.at 5 rfl) rfl rfl ?_
      refine r_get (pc := 6) (tX1_eliminate.at 6 rfl) gf_X1_22 (eH_0) rfl ?_
      refine r_icmp_geN (pc := 9) 125 (tX1_eliminate.at 7 rfl) (by decide) (by omega) (by omega) (fun c => by omega) (fun _ => ?_)
      refine r_aload_n (pc := 12) (i := 0) (tX1_eliminate.at 8 rfl) rfl rfl ?_
      refine r_iload_n (pc := 13) (i := 3) (tX1_eliminate.at 9 rfl) rfl rfl ?_
      refine r_iload_n (pc := 14) (i := 3) (tX1_eliminate.at 10 rfl) rfl rfl ?_
      refine r_callV (M' := mX1_cell) (pc := 15) (tX1_eliminate.at 11 rfl) ml_X1_50 rfl mw_X1_cell ⟨by decide, by decide⟩ (eH_0) rfl rfl (c_cell (by omega)) rfl rfl (Nat.le_of_ble_eq_true rfl) (Nat.le_of_ble_eq_true rfl) (Nat.le_of_ble_eq_true rfl) ?_
      rintro _ _ _ ⟨rfl, rfl, rfl⟩
      rw [e1]
      refine r_lstore (pc := 18) (i := 4) (tX1_eliminate.at 12 rfl) (by decide) ?_
      refine r_lload (pc := 20) (i := 4) (tX1_eliminate.at 13 rfl) rfl ?_
      refine r_lconst (pc := 22) (w := lI 0) (tX1_eliminate.at 14 rfl) (by decide) ?_
      have fin : elm A k k k = 0 → Po (some (.int (nI 0))) (eH v h q C U m) top := by
        intro c
        subst hPost
        exact ⟨rfl, C, rfl, Or.inr ⟨rfl, k, by omega, c⟩⟩
      refine r_lc_eq (pc := 23) 33 (tX1_eliminate.at 15 rfl) (tX1_eliminate.at 16 rfl) (by decide) (e2) (⟨by omega, by omega⟩) (fun c => ?_) (fun c => ?_)
      · refine r_iconst (pc := 33) (w := nI 0) (tX1_eliminate.at 21 rfl) (by decide) ?_
        refine r_zret (pc := 34) (tX1_eliminate.at 22 rfl) rfl (rfl) (Nat.le_of_ble_eq_true rfl) (Nat.le_of_ble_eq_true rfl) ?_
        exact fin c
      · refine r_lload_n (pc := 27) (i := 1) (tX1_eliminate.at 17 rfl) rfl rfl ?_
        refine r_lconst (pc := 28) (w := lI 0) (tX1_eliminate.at 18 rfl) (by decide) ?_
        refine r_lc_ne (pc := 29) 35 (tX1_eliminate.at 19 rfl) (tX1_eliminate.at 20 rfl) (by decide) (hpv) (⟨by omega, by omega⟩) (fun _ => ?_) (fun c => by omega)
        have hp2 : ∀ t, t ≤ k → elm A t t t ≠ 0 := fun t ht => by
          by_cases e : t = k
          · rw [e]; exact c
          · exact hp t (by omega)
        refine r_iload_n (pc := 35) (i := 3) (tX1_eliminate.at 23 rfl) rfl rfl ?_
        refine r_iconst (pc := 36) (w := nI 1) (tX1_eliminate.at 24 rfl) (by decide) ?_
        first | refine r_iaddN (pc := 37) (tX1_eliminate.at 25 rfl) ?_ | refine r_iaddZ (pc := 37) (tX1_eliminate.at 25 rfl) ?_ | refine r_iadd (pc := 37) (tX1_eliminate.at 25 rfl) ?_
        refine r_istore (pc := 38) (i := 6) (tX1_eliminate.at 26 rfl) (by decide) ?_
        refine key2 k (by omega) hp2 hpv hp0 (fun C o6 o7 o9 hC => ih (k + 1) C _ o6 o7 o9 (by omega) (fun t ht => hp2 t (by omega)) e2 c hC) (m - (k + 1)) (k + 1) C o7 o9 (by omega) (by omega) (fun r c h1 h2 => ?_)
        rw [hC r c h1 h2]
        split
        · rw [elm_s, if_neg (by omega)]
        · rfl
  exact key1 m 0 C _ _ _ _ (by omega) (fun t ht => by omega) ⟨by show (-9223372036854775808 : Int) ≤ 1; omega, by show (1 : Int) ≤ 9223372036854775807; omega⟩ (by show (1 : Int) ≠ 0; omega) hA
/-- the fraction that solving puts -/
def slA (A : Nat → Nat → Int) (m : Nat) : Int := if ∀ t, t < m → elm A t t t ≠ 0 then rdA (elm A m (m - 1) m) (elm A m (m - 1) (m - 1)) else rdA 0 1
def slB (A : Nat → Nat → Int) (m : Nat) : Int := if ∀ t, t < m → elm A t t t ≠ 0 then rdB (elm A m (m - 1) m) (elm A m (m - 1) (m - 1)) else rdB 0 1
theorem c_solve {v : Ev} {h : Hp} {top q g ga f S w k : Nat} {G : GT} {C Gn : Nat → Int} {U : Nat → Nat} {a b : Int} (hg : isG v h g G) (hd : g + 6 ≤ q ∨ q + 4 ≤ g) (hga : ∀ C U k, eH v h q C U k ga = some (aJ v 6 (lF Gn))) (hf : h f = some (frE a b)) (hfd : f < q ∨ q + 4 ≤ f) (hn : G.n ≤ 6) (hS : S < 64) (hw : w < G.n) (hW : ∀ k, k < 36 → G.W k ≤ 1000000)
    (ok : okA (aug G.W G.n Gn (unkL S w G.n)) (unkL S w G.n).length) :
    Cal v mX1_solve 4 0 0 [.ref q, .ref g, .int (nI S), .int (nI w), .ref ga, .ref f] (eH v h q C U k) top (fun r h' top' => r = none ∧ top = top' ∧ ∃ C' U' k', h' = eH v (hp h f (frE (slA (aug G.W G.n Gn (unkL S w G.n)) (unkL S w G.n).length) (slB (aug G.W G.n Gn (unkL S w G.n)) (unkL S w G.n).length))) q C' U' k') noX := by
  have hl := unkL_len (S := S) hw
  refine Cal.ofJ (by decide +kernel) rfl (Nat.le_of_ble_eq_true rfl) fun hz0 => ?_
  refine r_ls [some (.ref q), some (.ref g), some (.int (nI S)), some (.int (nI w)), some (.ref ga), some (.ref f)] rfl ?_
  generalize hm : (unkL S w G.n).length = m at *
  refine r_aload_n (pc := 0) (i := 0) (tX1_solve.at 0 rfl) rfl rfl ?_
  refine r_aload_n (pc := 1) (i := 1) (tX1_solve.at 1 rfl) rfl rfl ?_
  refine r_iload_n (pc := 2) (i := 2) (tX1_solve.at 2 rfl) rfl rfl ?_
  refine r_iload_n (pc := 3) (i := 3) (tX1_solve.at 3 rfl) rfl rfl ?_
  refine r_aload (pc := 4) (i := 4) (tX1_solve.at 4 rfl) rfl ?_
  refine r_callV (M' := mX1_build) (pc := 6) (tX1_solve.at 5 rfl) ml_X1_42 rfl mw_X1_build ⟨by decide, by decide⟩ (eH_0) rfl rfl (c_build hg hd hga hn hS hw hW) rfl rfl (Nat.le_of_ble_eq_true rfl) (Nat.le_of_ble_eq_true rfl) (Nat.le_of_ble_eq_true rfl) ?_
  rintro _ _ _ ⟨rfl, rfl, C1, U1, rfl, hC1⟩
  rw [hm] at hC1 ⊢
  refine r_aload_n (pc := 9) (i := 0) (tX1_solve.at 6 rfl) rfl rfl ?_
  refine r_callV (M' := mX1_eliminate) (pc := 10) (tX1_solve.at 7 rfl) ml_X1_46 rfl mw_X1_eliminate ⟨by decide, by decide⟩ (eH_0) rfl rfl (c_elim (by omega) hC1 ok) rfl rfl (Nat.le_of_ble_eq_true rfl) (Nat.le_of_ble_eq_true rfl) (Nat.le_of_ble_eq_true rfl) ?_
  rintro _ _ _ ⟨rfl, C2, rfl, hor⟩
  rcases hor with ⟨rfl, h1, h2⟩ | ⟨rfl, h1⟩
  · have e1 : slA (aug G.W G.n Gn (unkL S w G.n)) m = rdA (C2 ((m - 1) * 7 + m)) (C2 ((m - 1) * 7 + (m - 1))) := by rw [slA, if_pos h1, h2 _ _ (by omega) (by omega), h2 _ _ (by omega) (by omega)]
    have e2 : slB (aug G.W G.n Gn (unkL S w G.n)) m = rdB (C2 ((m - 1) * 7 + m)) (C2 ((m - 1) * 7 + (m - 1))) := by rw [slB, if_pos h1, h2 _ _ (by omega) (by omega), h2 _ _ (by omega) (by omega)]
    have b1 := ok.2.2.1 h1
    have b2 := ok.2.2.2 h1
    rw [← h2 _ _ (by omega) (by omega)] at b1 b2
    rw [e1, e2]
    refine r_eq rfl (st2 := [.int (nI 1)]) rfl ?_
    refine r_if_eqN (pc := 13) 54 (tX1_solve.at 8 rfl) (by decide) (by omega) (fun c => by omega) (fun _ => ?_)
    refine r_aload (pc := 16) (i := 5) (tX1_solve.at 9 rfl) rfl ?_
    refine r_aload_n (pc := 18) (i := 0) (tX1_solve.at 10 rfl) rfl rfl ?_
    refine r_aload_n (pc := 19) (i := 0) (tX1_solve.at 11 rfl) rfl rfl ?_
    refine r_get (pc := 20) (tX1_solve.at 12 rfl) gf_X1_22 (eH_0) rfl ?_
    refine r_iconst (pc := 23) (w := nI 1) (tX1_solve.at 13 rfl) (by decide) ?_
    first | refine r_isubN (pc := 24) (tX1_solve.at 14 rfl) (by omega) ?_ | refine r_isubZ (pc := 24) (tX1_solve.at 14 rfl) ?_ | refine r_isub (pc := 24) (tX1_solve.at 14 rfl) ?_
    refine r_aload_n (pc := 25) (i := 0) (tX1_solve.at 15 rfl) rfl rfl ?_
    refine r_get (pc := 26) (tX1_solve.at 16 rfl) gf_X1_22 (eH_0) rfl ?_
    refine r_callV (M' := mX1_cell) (pc := 29) (tX1_solve.at 17 rfl) ml_X1_50 rfl mw_X1_cell ⟨by decide, by decide⟩ (eH_0) rfl rfl (c_cell (i := m - 1) (j := m) (by omega)) rfl rfl (Nat.le_of_ble_eq_true rfl) (Nat.le_of_ble_eq_true rfl) (Nat.le_of_ble_eq_true rfl) ?_
    rintro _ _ _ ⟨rfl, rfl, rfl⟩
    refine r_aload_n (pc := 32) (i := 0) (tX1_solve.at 18 rfl) rfl rfl ?_
    refine r_aload_n (pc := 33) (i := 0) (tX1_solve.at 19 rfl) rfl rfl ?_
    refine r_get (pc := 34) (tX1_solve.at 20 rfl) gf_X1_22 (eH_0) rfl ?_
    refine r_iconst (pc := 37) (w := nI 1) (tX1_solve.at 21 rfl) (by decide) ?_
    first | refine r_isubN (pc := 38) (tX1_solve.at 22 rfl) (by omega) ?_ | refine r_isubZ (pc := 38) (tX1_solve.at 22 rfl) ?_ | refine r_isub (pc := 38) (tX1_solve.at 22 rfl) ?_
    refine r_aload_n (pc := 39) (i := 0) (tX1_solve.at 23 rfl) rfl rfl ?_
    refine r_get (pc := 40) (tX1_solve.at 24 rfl) gf_X1_22 (eH_0) rfl ?_
    refine r_iconst (pc := 43) (w := nI 1) (tX1_solve.at 25 rfl) (by decide) ?_
    first | refine r_isubN (pc := 44) (tX1_solve.at 26 rfl) (by omega) ?_ | refine r_isubZ (pc := 44) (tX1_solve.at 26 rfl) ?_ | refine r_isub (pc := 44) (tX1_solve.at 26 rfl) ?_
    refine r_callV (M' := mX1_cell) (pc := 45) (tX1_solve.at 27 rfl) ml_X1_50 rfl mw_X1_cell ⟨by decide, by decide⟩ (eH_0) rfl rfl (c_cell (i := m - 1) (j := m - 1) (by omega)) rfl rfl (Nat.le_of_ble_eq_true rfl) (Nat.le_of_ble_eq_true rfl) (Nat.le_of_ble_eq_true rfl) ?_
    rintro _ _ _ ⟨rfl, rfl, rfl⟩
    refine r_callV (M' := mX2_put) (pc := 48) (tX1_solve.at 28 rfl) ml_X1_26 rfl mw_X2_put ⟨by decide, by decide⟩ ((eH_out hfd).trans hf) rfl rfl (c_frPut ((eH_out hfd).trans hf) b2 b1) rfl rfl (Nat.le_of_ble_eq_true rfl) (Nat.le_of_ble_eq_true rfl) (Nat.le_of_ble_eq_true rfl) ?_
    rintro _ _ _ ⟨rfl, rfl, rfl⟩
    refine r_goto (pc := 51) 61 (tX1_solve.at 29 rfl) (by decide) ?_
    rw [eH_put hfd]
    refine r_vret (pc := 61) (tX1_solve.at 34 rfl) rfl (Nat.le_of_ble_eq_true rfl) (Nat.le_of_ble_eq_true rfl) ?_
    exact ⟨rfl, rfl, C2, U1, m, rfl⟩
  · have hnn : ¬ ∀ t, t < m → elm (aug G.W G.n Gn (unkL S w G.n)) t t t ≠ 0 := fun z => by
      obtain ⟨t, h3, h4⟩ := h1
      exact z t h3 h4
    have e1 : slA (aug G.W G.n Gn (unkL S w G.n)) m = rdA 0 1 := by rw [slA, if_neg hnn]
    have e2 : slB (aug G.W G.n Gn (unkL S w G.n)) m = rdB 0 1 := by rw [slB, if_neg hnn]
    rw [e1, e2]
    refine r_eq rfl (st2 := [.int (nI 0)]) rfl ?_
    refine r_if_eqN (pc := 13) 54 (tX1_solve.at 8 rfl) (by decide) (by omega) (fun _ => ?_) (fun c => by omega)
    refine r_aload (pc := 54) (i := 5) (tX1_solve.at 30 rfl) rfl ?_
    refine r_lconst (pc := 56) (w := lI 0) (tX1_solve.at 31 rfl) (by decide) ?_
    refine r_lconst (pc := 57) (w := lI 1) (tX1_solve.at 32 rfl) (by decide) ?_
    refine r_callV (M' := mX2_put) (pc := 58) (tX1_solve.at 33 rfl) ml_X1_26 rfl mw_X2_put ⟨by decide, by decide⟩ ((eH_out hfd).trans hf) rfl rfl (c_frPut (n := 0) (d := 1) ((eH_out hfd).trans hf) (by omega) (by omega)) rfl rfl (Nat.le_of_ble_eq_true rfl) (Nat.le_of_ble_eq_true rfl) (Nat.le_of_ble_eq_true rfl) ?_
    rintro _ _ _ ⟨rfl, rfl, rfl⟩
    rw [eH_put hfd]
    refine r_vret (pc := 61) (tX1_solve.at 34 rfl) rfl (Nat.le_of_ble_eq_true rfl) (Nat.le_of_ble_eq_true rfl) ?_
    exact ⟨rfl, rfl, C2, U1, m, rfl⟩
/-- what is in one set but not in another -/
def dif (S T : Nat) : Nat := S &&& (63 ^^^ T)
theorem bs_dif : ∀ S, S < 64 → ∀ T, T < 64 → (nI S &&& (nI T ^^^ zI (-1))) = nI (dif S T) := by decide +kernel
theorem dif_lt {S T : Nat} (hS : S < 64) : dif S T < 64 := Nat.lt_of_le_of_lt Nat.and_le_left hS
theorem bs_all : ∀ n, n < 7 → (nI (2 ^ n - 1) &&& zI (-2)) = nI (2 ^ n - 2) := by decide +kernel
/-- what meanUntil puts -/
def muS (W : Nat → Nat) (n x y : Nat) : Nat := dif (rch W n x) (2 ^ y)
def muM (W : Nat → Nat) (n x y : Nat) (Gn : Nat → Int) : Nat → Nat → Int := aug W n Gn (unkL (muS W n x y) x n)
def muK (W : Nat → Nat) (n x y : Nat) : Nat := (unkL (muS W n x y) x n).length
def muA (W : Nat → Nat) (n x y : Nat) (Gn : Nat → Int) : Int := if x = y then rdA 0 1 else slA (muM W n x y Gn) (muK W n x y)
def muB (W : Nat → Nat) (n x y : Nat) (Gn : Nat → Int) : Int := if x = y then rdB 0 1 else slB (muM W n x y Gn) (muK W n x y)
theorem c_mean {v : Ev} {h : Hp} {top q g ga f x y k : Nat} {G : GT} {C Gn : Nat → Int} {U : Nat → Nat} {a b : Int} (hg : isG v h g G) (hd : g + 6 ≤ q ∨ q + 4 ≤ g) (hga : ∀ C U k, eH v h q C U k ga = some (aJ v 6 (lF Gn))) (hf : h f = some (frE a b)) (hfd : f < q ∨ q + 4 ≤ f) (hn : G.n ≤ 6) (hx : x < G.n) (hy : y < G.n) (hW : ∀ k, k < 36 → G.W k ≤ 1000000)
    (ok : x ≠ y → okA (muM G.W G.n x y Gn) (muK G.W G.n x y)) :
    Cal v mX1_meanUntil 5 0 0 [.ref q, .ref g, .int (nI x), .int (nI y), .ref ga, .ref f] (eH v h q C U k) top (fun r h' top' => r = none ∧ top = top' ∧ ∃ C' U' k', h' = eH v (hp h f (frE (muA G.W G.n x y Gn) (muB G.W G.n x y Gn))) q C' U' k') noX := by
  have gG : ∀ C U k, isG v (eH v h q C U k) g G := fun C U k => eH_G hg hd
  refine Cal.ofJ (by decide +kernel) rfl (Nat.le_of_ble_eq_true rfl) fun hz0 => ?_
  refine r_ls [some (.ref q), some (.ref g), some (.int (nI x)), some (.int (nI y)), some (.ref ga), some (.ref f)] rfl ?_
  refine r_iload_n (pc := 0) (i := 2) (tX1_meanUntil.at 0 rfl) rfl rfl ?_
  refine r_iload_n (pc := 1) (i := 3) (tX1_meanUntil.at 1 rfl) rfl rfl ?_
  refine r_icmp_neN (pc := 2) 15 (tX1_meanUntil.at 2 rfl) (by decide) (by omega) (by omega) (fun c => ?_) (fun c => ?_)
  · have e1 : muA G.W G.n x y Gn = slA (muM G.W G.n x y Gn) (muK G.W G.n x y) := by rw [muA, if_neg c]
    have e2 : muB G.W G.n x y Gn = slB (muM G.W G.n x y Gn) (muK G.W G.n x y) := by rw [muB, if_neg c]
    have h1 : rch G.W G.n x < 64 := Nat.lt_of_lt_of_le (rch_lt hx) (p64 hn)
    have h2 : 2 ^ y < 64 := Nat.lt_of_lt_of_le (Nat.pow_lt_pow_right (by omega) (show y < 6 by omega)) (by decide)
    rw [e1, e2]
    refine r_aload_n (pc := 15) (i := 0) (tX1_meanUntil.at 8 rfl) rfl rfl ?_
    refine r_aload_n (pc := 16) (i := 1) (tX1_meanUntil.at 9 rfl) rfl rfl ?_
    refine r_aload_n (pc := 17) (i := 1) (tX1_meanUntil.at 10 rfl) rfl rfl ?_
    refine r_iload_n (pc := 18) (i := 2) (tX1_meanUntil.at 11 rfl) rfl rfl ?_
    refine r_callV (M' := mX3_component) (pc := 19) (tX1_meanUntil.at 12 rfl) ml_X1_32 rfl mw_X3_component ⟨by decide, by decide⟩ ((gG _ _ _).1) rfl rfl (c_comp (gG _ _ _) hn hx (fun k hk => by have := hW k hk; omega)) rfl rfl (Nat.le_of_ble_eq_true rfl) (Nat.le_of_ble_eq_true rfl) (Nat.le_of_ble_eq_true rfl) ?_
    rintro _ _ _ ⟨rfl, rfl, rfl⟩
    refine r_iconst (pc := 22) (w := nI 1) (tX1_meanUntil.at 13 rfl) (by decide) ?_
    refine r_iload_n (pc := 23) (i := 3) (tX1_meanUntil.at 14 rfl) rfl rfl ?_
    refine r_ishl (pc := 24) (tX1_meanUntil.at 15 rfl) ?_
    rw [bs_one y (by omega)]
    refine r_iconst (pc := 25) (w := zI (-1)) (tX1_meanUntil.at 16 rfl) (by decide) ?_
    refine r_ixor (pc := 26) (tX1_meanUntil.at 17 rfl) ?_
    refine r_iand (pc := 27) (tX1_meanUntil.at 18 rfl) ?_
    rw [bs_dif _ h1 _ h2]
    refine r_iload_n (pc := 28) (i := 2) (tX1_meanUntil.at 19 rfl) rfl rfl ?_
    refine r_aload (pc := 29) (i := 4) (tX1_meanUntil.at 20 rfl) rfl ?_
    refine r_aload (pc := 31) (i := 5) (tX1_meanUntil.at 21 rfl) rfl ?_
    refine r_callV (M' := mX1_solve) (pc := 33) (tX1_meanUntil.at 22 rfl) ml_X1_38 rfl mw_X1_solve ⟨by decide, by decide⟩ (eH_0) rfl rfl (c_solve hg hd hga hf hfd hn (dif_lt h1) hx hW (ok c)) rfl rfl (Nat.le_of_ble_eq_true rfl) (Nat.le_of_ble_eq_true rfl) (Nat.le_of_ble_eq_true rfl) ?_
    rintro _ _ _ ⟨rfl, rfl, C1, U1, k1, rfl⟩
    refine r_vret (pc := 36) (tX1_meanUntil.at 23 rfl) rfl (Nat.le_of_ble_eq_true rfl) (Nat.le_of_ble_eq_true rfl) ?_
    exact ⟨rfl, rfl, C1, U1, k1, rfl⟩
  · have e1 : muA G.W G.n x y Gn = rdA 0 1 := by rw [muA, if_pos c]
    have e2 : muB G.W G.n x y Gn = rdB 0 1 := by rw [muB, if_pos c]
    rw [e1, e2]
    refine r_aload (pc := 5) (i := 5) (tX1_meanUntil.at 3 rfl) rfl ?_
    refine r_lconst (pc := 7) (w := lI 0) (tX1_meanUntil.at 4 rfl) (by decide) ?_
    refine r_lconst (pc := 8) (w := lI 1) (tX1_meanUntil.at 5 rfl) (by decide) ?_
    refine r_callV (M' := mX2_put) (pc := 9) (tX1_meanUntil.at 6 rfl) ml_X1_26 rfl mw_X2_put ⟨by decide, by decide⟩ ((eH_out hfd).trans hf) rfl rfl (c_frPut (n := 0) (d := 1) ((eH_out hfd).trans hf) (by omega) (by omega)) rfl rfl (Nat.le_of_ble_eq_true rfl) (Nat.le_of_ble_eq_true rfl) (Nat.le_of_ble_eq_true rfl) ?_
    rintro _ _ _ ⟨rfl, rfl, rfl⟩
    refine r_goto (pc := 12) 36 (tX1_meanUntil.at 7 rfl) (by decide) ?_
    rw [eH_put hfd]
    refine r_vret (pc := 36) (tX1_meanUntil.at 23 rfl) rfl (Nat.le_of_ble_eq_true rfl) (Nat.le_of_ble_eq_true rfl) ?_
    exact ⟨rfl, rfl, C, U, k, rfl⟩
def trM (W : Nat → Nat) (n : Nat) : Nat → Nat → Int := aug W n (fun _ => 0) (unkL (2 ^ n - 2) 1 n)
def trK (n : Nat) : Nat := (unkL (2 ^ n - 2) 1 n).length
def trV (W : Nat → Nat) (n : Nat) : Int := if ∀ t, t < trK n → elm (trM W n) t t t ≠ 0 then elm (trM W n) (trK n) (trK n - 1) (trK n - 1) else 0
theorem c_treesOf {v : Ev} {h : Hp} {top q g k : Nat} {G : GT} {C : Nat → Int} {U : Nat → Nat} (hg : isG v h g G) (hd : g + 6 ≤ q ∨ q + 4 ≤ g) (hn : 2 ≤ G.n ∧ G.n ≤ 6) (hW : ∀ k, k < 36 → G.W k ≤ 1000000) (ok : okA (trM G.W G.n) (trK G.n)) :
    Cal v mX1_treesOf 4 0 0 [.ref q, .ref g] (eH v h q C U k) top (fun r h' top' => r = some (.long (lI (trV G.W G.n))) ∧ top = top' ∧ ∃ C' U' k', h' = eH v h q C' U' k') noX := by
  have gG : ∀ C U k, isG v (eH v h q C U k) g G := fun C U k => eH_G hg hd
  have hl := unkL_len (S := 2 ^ G.n - 2) (w := 1) (n := G.n) (by omega)
  have h64 := p64 hn.2
  refine Cal.ofJ (by decide +kernel) rfl (Nat.le_of_ble_eq_true rfl) fun hz0 => ?_
  refine r_ls [some (.ref q), some (.ref g), none] rfl ?_
  have h1p : 1 ≤ 2 ^ G.n := Nat.one_le_two_pow
  refine r_iconst (pc := 0) (w := nI 1) (tX1_treesOf.at 0 rfl) (by decide) ?_
  refine r_aload_n (pc := 1) (i := 1) (tX1_treesOf.at 1 rfl) rfl rfl ?_
  refine r_get (pc := 2) (tX1_treesOf.at 2 rfl) gf_X1_54 ((gG _ _ _).1) rfl ?_
  refine r_ishl (pc := 5) (tX1_treesOf.at 3 rfl) ?_
  rw [bs_one G.n (by omega)]
  refine r_iconst (pc := 6) (w := nI 1) (tX1_treesOf.at 4 rfl) (by decide) ?_
  first | refine r_isubN (pc := 7) (tX1_treesOf.at 5 rfl) (by omega) ?_ | refine r_isubZ (pc := 7) (tX1_treesOf.at 5 rfl) ?_ | refine r_isub (pc := 7) (tX1_treesOf.at 5 rfl) ?_
  refine r_istore_n (pc := 8) (i := 2) (tX1_treesOf.at 6 rfl) rfl (by decide) ?_
  refine r_aload_n (pc := 9) (i := 0) (tX1_treesOf.at 7 rfl) rfl rfl ?_
  refine r_aload_n (pc := 10) (i := 1) (tX1_treesOf.at 8 rfl) rfl rfl ?_
  refine r_iload_n (pc := 11) (i := 2) (tX1_treesOf.at 9 rfl) rfl rfl ?_
  refine r_bipush (pc := 12) (w := zI (-2)) (tX1_treesOf.at 10 rfl) (by decide) ?_
  refine r_iand (pc := 14) (tX1_treesOf.at 11 rfl) ?_
  rw [bs_all G.n (by omega)]
  generalize hm : (unkL (2 ^ G.n - 2) 1 G.n).length = m at *
  have hk : trK G.n = m := hm
  refine r_iconst (pc := 15) (w := nI 1) (tX1_treesOf.at 12 rfl) (by decide) ?_
  refine r_aload_n (pc := 16) (i := 0) (tX1_treesOf.at 13 rfl) rfl rfl ?_
  refine r_get (pc := 17) (tX1_treesOf.at 14 rfl) gf_X1_19 (eH_0) rfl ?_
  refine r_callV (M' := mX1_build) (pc := 20) (tX1_treesOf.at 15 rfl) ml_X1_42 rfl mw_X1_build ⟨by decide, by decide⟩ (eH_0) rfl rfl (c_build (Gn := fun _ => 0) hg hd (fun C U k => eH_3) hn.2 (by omega) (by omega) hW) rfl rfl (Nat.le_of_ble_eq_true rfl) (Nat.le_of_ble_eq_true rfl) (Nat.le_of_ble_eq_true rfl) ?_
  rintro _ _ _ ⟨rfl, rfl, C1, U1, rfl, hC1⟩
  rw [hm] at hC1 ⊢
  rw [hk] at ok
  refine r_aload_n (pc := 23) (i := 0) (tX1_treesOf.at 16 rfl) rfl rfl ?_
  refine r_callV (M' := mX1_eliminate) (pc := 24) (tX1_treesOf.at 17 rfl) ml_X1_46 rfl mw_X1_eliminate ⟨by decide, by decide⟩ (eH_0) rfl rfl (c_elim (A := trM G.W G.n) (by omega) hC1 ok) rfl rfl (Nat.le_of_ble_eq_true rfl) (Nat.le_of_ble_eq_true rfl) (Nat.le_of_ble_eq_true rfl) ?_
  rintro _ _ _ ⟨rfl, C2, rfl, hor⟩
  rcases hor with ⟨rfl, h1, h2⟩ | ⟨rfl, h1⟩
  · have e1 : trV G.W G.n = C2 ((m - 1) * 7 + (m - 1)) := by rw [trV, hk, if_pos h1, h2 _ _ (by omega) (by omega)]
    rw [e1]
    refine r_eq rfl (st2 := [.int (nI 1)]) rfl ?_
    refine r_if_eqN (pc := 27) 49 (tX1_treesOf.at 18 rfl) (by decide) (by omega) (fun c => by omega) (fun _ => ?_)
    refine r_aload_n (pc := 30) (i := 0) (tX1_treesOf.at 19 rfl) rfl rfl ?_
    refine r_aload_n (pc := 31) (i := 0) (tX1_treesOf.at 20 rfl) rfl rfl ?_
    refine r_get (pc := 32) (tX1_treesOf.at 21 rfl) gf_X1_22 (eH_0) rfl ?_
    refine r_iconst (pc := 35) (w := nI 1) (tX1_treesOf.at 22 rfl) (by decide) ?_
    first | refine r_isubN (pc := 36) (tX1_treesOf.at 23 rfl) (by omega) ?_ | refine r_isubZ (pc := 36) (tX1_treesOf.at 23 rfl) ?_ | refine r_isub (pc := 36) (tX1_treesOf.at 23 rfl) ?_
    refine r_aload_n (pc := 37) (i := 0) (tX1_treesOf.at 24 rfl) rfl rfl ?_
    refine r_get (pc := 38) (tX1_treesOf.at 25 rfl) gf_X1_22 (eH_0) rfl ?_
    refine r_iconst (pc := 41) (w := nI 1) (tX1_treesOf.at 26 rfl) (by decide) ?_
    first | refine r_isubN (pc := 42) (tX1_treesOf.at 27 rfl) (by omega) ?_ | refine r_isubZ (pc := 42) (tX1_treesOf.at 27 rfl) ?_ | refine r_isub (pc := 42) (tX1_treesOf.at 27 rfl) ?_
    refine r_callV (M' := mX1_cell) (pc := 43) (tX1_treesOf.at 28 rfl) ml_X1_50 rfl mw_X1_cell ⟨by decide, by decide⟩ (eH_0) rfl rfl (c_cell (i := m - 1) (j := m - 1) (by omega)) rfl rfl (Nat.le_of_ble_eq_true rfl) (Nat.le_of_ble_eq_true rfl) (Nat.le_of_ble_eq_true rfl) ?_
    rintro _ _ _ ⟨rfl, rfl, rfl⟩
    refine r_goto (pc := 46) 50 (tX1_treesOf.at 29 rfl) (by decide) ?_
    refine r_lret (pc := 50) (tX1_treesOf.at 31 rfl) rfl (Nat.le_of_ble_eq_true rfl) (Nat.le_of_ble_eq_true rfl) ?_
    exact ⟨rfl, rfl, C2, U1, m, rfl⟩
  · have hnn : ¬ ∀ t, t < m → elm (trM G.W G.n) t t t ≠ 0 := fun z => by
      obtain ⟨t, h3, h4⟩ := h1
      exact z t h3 h4
    have e1 : trV G.W G.n = 0 := by rw [trV, hk, if_neg hnn]
    rw [e1]
    refine r_eq rfl (st2 := [.int (nI 0)]) rfl ?_
    refine r_if_eqN (pc := 27) 49 (tX1_treesOf.at 18 rfl) (by decide) (by omega) (fun _ => ?_) (fun c => by omega)
    refine r_lconst (pc := 49) (w := lI 0) (tX1_treesOf.at 30 rfl) (by decide) ?_
    refine r_lret (pc := 50) (tX1_treesOf.at 31 rfl) rfl (Nat.le_of_ble_eq_true rfl) (Nat.le_of_ble_eq_true rfl) ?_
    exact ⟨rfl, rfl, C2, U1, m, rfl⟩
theorem c_eqInit {v : Ev} {h : Hp} {q : Nat} (hq : h q = some (ob 1 [.null, .null, .null, .int 0])) : Cal v mX1_init 1 3 54 [.ref q] h (q + 1) (pT (eH v h q (fun _ => 0) (fun _ => 0) 0) (q + 4)) noX := by
  refine Cal.ofJ (by decide +kernel) rfl (Nat.le_of_ble_eq_true rfl) fun hz0 => ?_
  refine r_ls [some (.ref q)] rfl ?_
  refine r_aload_n (pc := 0) (i := 0) (tX1_init.at 0 rfl) rfl rfl ?_
  refine r_objInit (pc := 1) (tX1_init.at 1 rfl) ml_X1_3 oi_inst oi_code (Nat.le_of_ble_eq_true rfl) (Nat.le_of_ble_eq_true rfl) ?_
  refine r_aload_n (pc := 4) (i := 0) (tX1_init.at 2 rfl) rfl rfl ?_
  refine r_bipush (pc := 5) (w := nI 42) (tX1_init.at 3 rfl) (by decide) ?_
  refine r_newaJ (pc := 7) (42) (tX1_init.at 4 rfl) (rfl) (Nat.le_of_ble_eq_true rfl) ac_long (Nat.le_of_ble_eq_true rfl) (Nat.le_of_ble_eq_true rfl) (fun fr7 => ?_)
  refine r_putF (pc := 9) (tX1_init.at 5 rfl) pff_X1_11 rfl ((hp_ne _ _ (by omega)).trans hq) (Nat.le_of_ble_eq_true rfl) rfl rfl ?_
  refine r_aload_n (pc := 12) (i := 0) (tX1_init.at 6 rfl) rfl rfl ?_
  refine r_bipush (pc := 13) (w := nI 6) (tX1_init.at 7 rfl) (by decide) ?_
  refine r_newaI (pc := 15) (6) (tX1_init.at 8 rfl) (rfl) (Nat.le_of_ble_eq_true rfl) ac_int (Nat.le_of_ble_eq_true rfl) (Nat.le_of_ble_eq_true rfl) (fun fr15 => ?_)
  refine r_putF (pc := 17) (tX1_init.at 9 rfl) pff_X1_15 rfl ((hp_ne _ _ (by omega)).trans (hp_eq _ _ _)) (Nat.le_of_ble_eq_true rfl) rfl rfl ?_
  refine r_aload_n (pc := 20) (i := 0) (tX1_init.at 10 rfl) rfl rfl ?_
  refine r_bipush (pc := 21) (w := nI 6) (tX1_init.at 11 rfl) (by decide) ?_
  refine r_newaJ (pc := 23) (6) (tX1_init.at 12 rfl) (rfl) (Nat.le_of_ble_eq_true rfl) ac_long (Nat.le_of_ble_eq_true rfl) (Nat.le_of_ble_eq_true rfl) (fun fr23 => ?_)
  refine r_putF (pc := 25) (tX1_init.at 13 rfl) pff_X1_19 rfl ((hp_ne _ _ (by omega)).trans (hp_eq _ _ _)) (Nat.le_of_ble_eq_true rfl) rfl rfl ?_
  refine r_aload_n (pc := 28) (i := 0) (tX1_init.at 14 rfl) rfl rfl ?_
  refine r_iconst (pc := 29) (w := nI 0) (tX1_init.at 15 rfl) (by decide) ?_
  refine r_put (pc := 30) (tX1_init.at 16 rfl) pf_X1_22 (hp_eq _ _ _) (Nat.le_of_ble_eq_true rfl) (rfl) (rfl) ?_
  refine r_vret (pc := 33) (tX1_init.at 17 rfl) rfl (Nat.le_of_ble_eq_true rfl) (Nat.le_of_ble_eq_true rfl) ?_
  refine ⟨rfl, (eH_ext ?_ ?_ ?_ ?_ ?_).symm, rfl⟩
  · simp [hp]
    rfl
  · simp [hp]
    rfl
  · simp [hp]
    rfl
  · simp [hp]
    rfl
  · intro a ha
    simp [hp, show a ≠ q by omega, show a ≠ q + 1 by omega, show a ≠ q + 1 + 1 by omega, show a ≠ q + 1 + 1 + 1 by omega]
end
