section
-- ===== PART A: goes FIRST, ahead of the names: the tables' words, and 'selects' of the private methods out of them =====
/-- a private method of a class that the tables say can be made, by its rows of tables_1 -/
def lw_okq (q : MethodName × Nat) : Prop := (q.1.cls ≠ "java/lang/invoke/MethodHandle" ∧ q.1.cls ≠ "java/lang/invoke/VarHandle") ∧ Cond.instantiable q.1.cls q.2 ∈ tables_1 ∧ Cond.privateMethod q.1 ∈ tables_1 ∧ Cond.instanceMethod q.1 ∈ tables_1
theorem lw_p0 : lw_okq (⟨"RandomWalks", "requireVertex", "(I)V"⟩, 12) := ⟨⟨by decide +kernel, by decide +kernel⟩, List.mem_of_getElem? (i := 31) (by decide +kernel), List.mem_of_getElem? (i := 345) (by decide +kernel), List.mem_of_getElem? (i := 346) (by decide +kernel)⟩
theorem lw_p1 : lw_okq (⟨"java/lang/Throwable", "fillInStackTrace", "(I)Ljava/lang/Throwable;"⟩, 6) := ⟨⟨by decide +kernel, by decide +kernel⟩, List.mem_of_getElem? (i := 387) (by decide +kernel), List.mem_of_getElem? (i := 385) (by decide +kernel), List.mem_of_getElem? (i := 386) (by decide +kernel)⟩
theorem lw_p2 : lw_okq (⟨"RandomWalks", "countTrees", "()J"⟩, 12) := ⟨⟨by decide +kernel, by decide +kernel⟩, List.mem_of_getElem? (i := 31) (by decide +kernel), List.mem_of_getElem? (i := 428) (by decide +kernel), List.mem_of_getElem? (i := 429) (by decide +kernel)⟩
theorem lw_p3 : lw_okq (⟨"RandomWalks$Equations", "build", "(LRandomWalks$Graph;II[J)V"⟩, 4) := ⟨⟨by decide +kernel, by decide +kernel⟩, List.mem_of_getElem? (i := 226) (by decide +kernel), List.mem_of_getElem? (i := 436) (by decide +kernel), List.mem_of_getElem? (i := 437) (by decide +kernel)⟩
theorem lw_p4 : lw_okq (⟨"RandomWalks$Equations", "putCell", "(IIJ)V"⟩, 4) := ⟨⟨by decide +kernel, by decide +kernel⟩, List.mem_of_getElem? (i := 226) (by decide +kernel), List.mem_of_getElem? (i := 442) (by decide +kernel), List.mem_of_getElem? (i := 443) (by decide +kernel)⟩
theorem lw_p5 : lw_okq (⟨"RandomWalks$Equations", "eliminate", "()Z"⟩, 4) := ⟨⟨by decide +kernel, by decide +kernel⟩, List.mem_of_getElem? (i := 226) (by decide +kernel), List.mem_of_getElem? (i := 446) (by decide +kernel), List.mem_of_getElem? (i := 447) (by decide +kernel)⟩
theorem lw_p6 : lw_okq (⟨"RandomWalks$Equations", "cell", "(II)J"⟩, 4) := ⟨⟨by decide +kernel, by decide +kernel⟩, List.mem_of_getElem? (i := 226) (by decide +kernel), List.mem_of_getElem? (i := 450) (by decide +kernel), List.mem_of_getElem? (i := 451) (by decide +kernel)⟩
theorem lw_p7 : lw_okq (⟨"RandomWalks$Spread", "fillChances", "(LRandomWalks$Graph;)V"⟩, 4) := ⟨⟨by decide +kernel, by decide +kernel⟩, List.mem_of_getElem? (i := 282) (by decide +kernel), List.mem_of_getElem? (i := 482) (by decide +kernel), List.mem_of_getElem? (i := 483) (by decide +kernel)⟩
theorem lw_p8 : lw_okq (⟨"RandomWalks$Spread", "chanceAt", "(LRandomWalks$Graph;I)F"⟩, 4) := ⟨⟨by decide +kernel, by decide +kernel⟩, List.mem_of_getElem? (i := 282) (by decide +kernel), List.mem_of_getElem? (i := 501) (by decide +kernel), List.mem_of_getElem? (i := 502) (by decide +kernel)⟩
theorem lw_p9 : lw_okq (⟨"RandomWalks$Tokens", "scanToken", "(II)I"⟩, 6) := ⟨⟨by decide +kernel, by decide +kernel⟩, List.mem_of_getElem? (i := 117) (by decide +kernel), List.mem_of_getElem? (i := 619) (by decide +kernel), List.mem_of_getElem? (i := 620) (by decide +kernel)⟩
theorem lw_p10 : lw_okq (⟨"RandomWalks$Tokens", "scanNumber", "(II)I"⟩, 6) := ⟨⟨by decide +kernel, by decide +kernel⟩, List.mem_of_getElem? (i := 117) (by decide +kernel), List.mem_of_getElem? (i := 626) (by decide +kernel), List.mem_of_getElem? (i := 627) (by decide +kernel)⟩
theorem lw_p11 : lw_okq (⟨"RandomWalks$Tokens", "put", "(III)V"⟩, 6) := ⟨⟨by decide +kernel, by decide +kernel⟩, List.mem_of_getElem? (i := 117) (by decide +kernel), List.mem_of_getElem? (i := 630) (by decide +kernel), List.mem_of_getElem? (i := 631) (by decide +kernel)⟩
theorem lw_p12 : lw_okq (⟨"RandomWalks$Tokens", "scanWord", "(II)I"⟩, 6) := ⟨⟨by decide +kernel, by decide +kernel⟩, List.mem_of_getElem? (i := 117) (by decide +kernel), List.mem_of_getElem? (i := 637) (by decide +kernel), List.mem_of_getElem? (i := 638) (by decide +kernel)⟩
theorem lw_p13 : lw_okq (⟨"RandomWalks$Tokens", "kindOfWord", "(II)I"⟩, 6) := ⟨⟨by decide +kernel, by decide +kernel⟩, List.mem_of_getElem? (i := 117) (by decide +kernel), List.mem_of_getElem? (i := 641) (by decide +kernel), List.mem_of_getElem? (i := 642) (by decide +kernel)⟩
theorem lw_p14 : lw_okq (⟨"RandomWalks$Tokens", "isWord", "(Ljava/lang/String;II)Z"⟩, 6) := ⟨⟨by decide +kernel, by decide +kernel⟩, List.mem_of_getElem? (i := 117) (by decide +kernel), List.mem_of_getElem? (i := 646) (by decide +kernel), List.mem_of_getElem? (i := 647) (by decide +kernel)⟩
theorem lw_p15 : lw_okq (⟨"RandomWalks$Reader", "takeToken", "()V"⟩, 13) := ⟨⟨by decide +kernel, by decide +kernel⟩, List.mem_of_getElem? (i := 111) (by decide +kernel), List.mem_of_getElem? (i := 663) (by decide +kernel), List.mem_of_getElem? (i := 664) (by decide +kernel)⟩
def lw_privs_1 : List (MethodName × Nat) := [(⟨"RandomWalks", "requireVertex", "(I)V"⟩, 12), (⟨"java/lang/Throwable", "fillInStackTrace", "(I)Ljava/lang/Throwable;"⟩, 6), (⟨"RandomWalks", "countTrees", "()J"⟩, 12), (⟨"RandomWalks$Equations", "build", "(LRandomWalks$Graph;II[J)V"⟩, 4), (⟨"RandomWalks$Equations", "putCell", "(IIJ)V"⟩, 4), (⟨"RandomWalks$Equations", "eliminate", "()Z"⟩, 4), (⟨"RandomWalks$Equations", "cell", "(II)J"⟩, 4), (⟨"RandomWalks$Spread", "fillChances", "(LRandomWalks$Graph;)V"⟩, 4), (⟨"RandomWalks$Spread", "chanceAt", "(LRandomWalks$Graph;I)F"⟩, 4), (⟨"RandomWalks$Tokens", "scanToken", "(II)I"⟩, 6), (⟨"RandomWalks$Tokens", "scanNumber", "(II)I"⟩, 6), (⟨"RandomWalks$Tokens", "put", "(III)V"⟩, 6), (⟨"RandomWalks$Tokens", "scanWord", "(II)I"⟩, 6), (⟨"RandomWalks$Tokens", "kindOfWord", "(II)I"⟩, 6), (⟨"RandomWalks$Tokens", "isWord", "(Ljava/lang/String;II)Z"⟩, 6), (⟨"RandomWalks$Reader", "takeToken", "()V"⟩, 13)]
theorem lw_r1 : ∀ q ∈ lw_privs_1, lw_okq q := List.forall_mem_cons.mpr ⟨lw_p0, List.forall_mem_cons.mpr ⟨lw_p1, List.forall_mem_cons.mpr ⟨lw_p2, List.forall_mem_cons.mpr ⟨lw_p3, List.forall_mem_cons.mpr ⟨lw_p4, List.forall_mem_cons.mpr ⟨lw_p5, List.forall_mem_cons.mpr ⟨lw_p6, List.forall_mem_cons.mpr ⟨lw_p7, List.forall_mem_cons.mpr ⟨lw_p8, List.forall_mem_cons.mpr ⟨lw_p9, List.forall_mem_cons.mpr ⟨lw_p10, List.forall_mem_cons.mpr ⟨lw_p11, List.forall_mem_cons.mpr ⟨lw_p12, List.forall_mem_cons.mpr ⟨lw_p13, List.forall_mem_cons.mpr ⟨lw_p14, List.forall_mem_cons.mpr ⟨lw_p15, fun _ h => absurd h List.not_mem_nil⟩⟩⟩⟩⟩⟩⟩⟩⟩⟩⟩⟩⟩⟩⟩⟩
theorem lw_p16 : lw_okq (⟨"RandomWalks$Reader", "fail", "(I)Z"⟩, 13) := ⟨⟨by decide +kernel, by decide +kernel⟩, List.mem_of_getElem? (i := 111) (by decide +kernel), List.mem_of_getElem? (i := 667) (by decide +kernel), List.mem_of_getElem? (i := 668) (by decide +kernel)⟩
theorem lw_p17 : lw_okq (⟨"RandomWalks$Reader", "readNumber", "(II)Z"⟩, 13) := ⟨⟨by decide +kernel, by decide +kernel⟩, List.mem_of_getElem? (i := 111) (by decide +kernel), List.mem_of_getElem? (i := 671) (by decide +kernel), List.mem_of_getElem? (i := 672) (by decide +kernel)⟩
theorem lw_p18 : lw_okq (⟨"RandomWalks$Reader", "readSemicolon", "()Z"⟩, 13) := ⟨⟨by decide +kernel, by decide +kernel⟩, List.mem_of_getElem? (i := 111) (by decide +kernel), List.mem_of_getElem? (i := 686) (by decide +kernel), List.mem_of_getElem? (i := 687) (by decide +kernel)⟩
theorem lw_p19 : lw_okq (⟨"RandomWalks$Reader", "readStatement", "()Z"⟩, 13) := ⟨⟨by decide +kernel, by decide +kernel⟩, List.mem_of_getElem? (i := 111) (by decide +kernel), List.mem_of_getElem? (i := 690) (by decide +kernel), List.mem_of_getElem? (i := 691) (by decide +kernel)⟩
theorem lw_p20 : lw_okq (⟨"RandomWalks$Reader", "readEdge", "()Z"⟩, 13) := ⟨⟨by decide +kernel, by decide +kernel⟩, List.mem_of_getElem? (i := 111) (by decide +kernel), List.mem_of_getElem? (i := 694) (by decide +kernel), List.mem_of_getElem? (i := 695) (by decide +kernel)⟩
theorem lw_p21 : lw_okq (⟨"RandomWalks$Reader", "readVertex", "()Z"⟩, 13) := ⟨⟨by decide +kernel, by decide +kernel⟩, List.mem_of_getElem? (i := 111) (by decide +kernel), List.mem_of_getElem? (i := 698) (by decide +kernel), List.mem_of_getElem? (i := 699) (by decide +kernel)⟩
theorem lw_p22 : lw_okq (⟨"RandomWalks$Reader", "readAbsorb", "()Z"⟩, 13) := ⟨⟨by decide +kernel, by decide +kernel⟩, List.mem_of_getElem? (i := 111) (by decide +kernel), List.mem_of_getElem? (i := 711) (by decide +kernel), List.mem_of_getElem? (i := 712) (by decide +kernel)⟩
theorem lw_p23 : lw_okq (⟨"RandomWalks$Reader", "readJoin", "()Z"⟩, 13) := ⟨⟨by decide +kernel, by decide +kernel⟩, List.mem_of_getElem? (i := 111) (by decide +kernel), List.mem_of_getElem? (i := 719) (by decide +kernel), List.mem_of_getElem? (i := 720) (by decide +kernel)⟩
theorem lw_p24 : lw_okq (⟨"RandomWalks$Graph", "numberBlocks", "()V"⟩, 10) := ⟨⟨by decide +kernel, by decide +kernel⟩, List.mem_of_getElem? (i := 39) (by decide +kernel), List.mem_of_getElem? (i := 727) (by decide +kernel), List.mem_of_getElem? (i := 728) (by decide +kernel)⟩
theorem lw_p25 : lw_okq (⟨"RandomWalks$Reader", "readCost", "()Z"⟩, 13) := ⟨⟨by decide +kernel, by decide +kernel⟩, List.mem_of_getElem? (i := 111) (by decide +kernel), List.mem_of_getElem? (i := 732) (by decide +kernel), List.mem_of_getElem? (i := 733) (by decide +kernel)⟩
theorem lw_p26 : lw_okq (⟨"RandomWalks$Reader", "postpone", "(I)V"⟩, 13) := ⟨⟨by decide +kernel, by decide +kernel⟩, List.mem_of_getElem? (i := 111) (by decide +kernel), List.mem_of_getElem? (i := 736) (by decide +kernel), List.mem_of_getElem? (i := 737) (by decide +kernel)⟩
theorem lw_p27 : lw_okq (⟨"RandomWalks$Reader", "readFactor", "()Z"⟩, 13) := ⟨⟨by decide +kernel, by decide +kernel⟩, List.mem_of_getElem? (i := 111) (by decide +kernel), List.mem_of_getElem? (i := 740) (by decide +kernel), List.mem_of_getElem? (i := 741) (by decide +kernel)⟩
theorem lw_p28 : lw_okq (⟨"RandomWalks$Reader", "emit", "(I)V"⟩, 13) := ⟨⟨by decide +kernel, by decide +kernel⟩, List.mem_of_getElem? (i := 111) (by decide +kernel), List.mem_of_getElem? (i := 744) (by decide +kernel), List.mem_of_getElem? (i := 745) (by decide +kernel)⟩
theorem lw_p29 : lw_okq (⟨"RandomWalks$Reader", "release", "(I)V"⟩, 13) := ⟨⟨by decide +kernel, by decide +kernel⟩, List.mem_of_getElem? (i := 111) (by decide +kernel), List.mem_of_getElem? (i := 751) (by decide +kernel), List.mem_of_getElem? (i := 752) (by decide +kernel)⟩
theorem lw_p30 : lw_okq (⟨"RandomWalksLaw", "areHits", "(LRandomWalks;IZ)Z"⟩, 8) := ⟨⟨by decide +kernel, by decide +kernel⟩, List.mem_of_getElem? (i := 508) (by decide +kernel), List.mem_of_getElem? (i := 780) (by decide +kernel), List.mem_of_getElem? (i := 781) (by decide +kernel)⟩
theorem lw_p31 : lw_okq (⟨"RandomWalksLaw", "reached", "(I)[Z"⟩, 8) := ⟨⟨by decide +kernel, by decide +kernel⟩, List.mem_of_getElem? (i := 508) (by decide +kernel), List.mem_of_getElem? (i := 784) (by decide +kernel), List.mem_of_getElem? (i := 785) (by decide +kernel)⟩
def lw_privs_2 : List (MethodName × Nat) := [(⟨"RandomWalks$Reader", "fail", "(I)Z"⟩, 13), (⟨"RandomWalks$Reader", "readNumber", "(II)Z"⟩, 13), (⟨"RandomWalks$Reader", "readSemicolon", "()Z"⟩, 13), (⟨"RandomWalks$Reader", "readStatement", "()Z"⟩, 13), (⟨"RandomWalks$Reader", "readEdge", "()Z"⟩, 13), (⟨"RandomWalks$Reader", "readVertex", "()Z"⟩, 13), (⟨"RandomWalks$Reader", "readAbsorb", "()Z"⟩, 13), (⟨"RandomWalks$Reader", "readJoin", "()Z"⟩, 13), (⟨"RandomWalks$Graph", "numberBlocks", "()V"⟩, 10), (⟨"RandomWalks$Reader", "readCost", "()Z"⟩, 13), (⟨"RandomWalks$Reader", "postpone", "(I)V"⟩, 13), (⟨"RandomWalks$Reader", "readFactor", "()Z"⟩, 13), (⟨"RandomWalks$Reader", "emit", "(I)V"⟩, 13), (⟨"RandomWalks$Reader", "release", "(I)V"⟩, 13), (⟨"RandomWalksLaw", "areHits", "(LRandomWalks;IZ)Z"⟩, 8), (⟨"RandomWalksLaw", "reached", "(I)[Z"⟩, 8)]
theorem lw_r2 : ∀ q ∈ lw_privs_2, lw_okq q := List.forall_mem_cons.mpr ⟨lw_p16, List.forall_mem_cons.mpr ⟨lw_p17, List.forall_mem_cons.mpr ⟨lw_p18, List.forall_mem_cons.mpr ⟨lw_p19, List.forall_mem_cons.mpr ⟨lw_p20, List.forall_mem_cons.mpr ⟨lw_p21, List.forall_mem_cons.mpr ⟨lw_p22, List.forall_mem_cons.mpr ⟨lw_p23, List.forall_mem_cons.mpr ⟨lw_p24, List.forall_mem_cons.mpr ⟨lw_p25, List.forall_mem_cons.mpr ⟨lw_p26, List.forall_mem_cons.mpr ⟨lw_p27, List.forall_mem_cons.mpr ⟨lw_p28, List.forall_mem_cons.mpr ⟨lw_p29, List.forall_mem_cons.mpr ⟨lw_p30, List.forall_mem_cons.mpr ⟨lw_p31, fun _ h => absurd h List.not_mem_nil⟩⟩⟩⟩⟩⟩⟩⟩⟩⟩⟩⟩⟩⟩⟩⟩
theorem lw_p32 : lw_okq (⟨"RandomWalks", "requireWay", "(II)V"⟩, 12) := ⟨⟨by decide +kernel, by decide +kernel⟩, List.mem_of_getElem? (i := 31) (by decide +kernel), List.mem_of_getElem? (i := 792) (by decide +kernel), List.mem_of_getElem? (i := 793) (by decide +kernel)⟩
theorem lw_p33 : lw_okq (⟨"RandomWalks$Graph", "neighbours", "(I)I"⟩, 10) := ⟨⟨by decide +kernel, by decide +kernel⟩, List.mem_of_getElem? (i := 39) (by decide +kernel), List.mem_of_getElem? (i := 804) (by decide +kernel), List.mem_of_getElem? (i := 805) (by decide +kernel)⟩
theorem lw_p34 : lw_okq (⟨"RandomWalks", "gainCosts", "()V"⟩, 12) := ⟨⟨by decide +kernel, by decide +kernel⟩, List.mem_of_getElem? (i := 31) (by decide +kernel), List.mem_of_getElem? (i := 825) (by decide +kernel), List.mem_of_getElem? (i := 826) (by decide +kernel)⟩
theorem lw_p35 : lw_okq (⟨"RandomWalks$Costs", "evaluate", "([IIII)I"⟩, 2) := ⟨⟨by decide +kernel, by decide +kernel⟩, List.mem_of_getElem? (i := 194) (by decide +kernel), List.mem_of_getElem? (i := 839) (by decide +kernel), List.mem_of_getElem? (i := 840) (by decide +kernel)⟩
theorem lw_p36 : lw_okq (⟨"RandomWalks", "gainSteps", "()V"⟩, 12) := ⟨⟨by decide +kernel, by decide +kernel⟩, List.mem_of_getElem? (i := 31) (by decide +kernel), List.mem_of_getElem? (i := 882) (by decide +kernel), List.mem_of_getElem? (i := 883) (by decide +kernel)⟩
theorem lw_p37 : lw_okq (⟨"RandomWalksLaw", "isMean", "([J[J[Z[ZI)Z"⟩, 8) := ⟨⟨by decide +kernel, by decide +kernel⟩, List.mem_of_getElem? (i := 508) (by decide +kernel), List.mem_of_getElem? (i := 889) (by decide +kernel), List.mem_of_getElem? (i := 890) (by decide +kernel)⟩
theorem lw_p38 : lw_okq (⟨"RandomWalksLaw", "isAbsorbing", "(I)Z"⟩, 8) := ⟨⟨by decide +kernel, by decide +kernel⟩, List.mem_of_getElem? (i := 508) (by decide +kernel), List.mem_of_getElem? (i := 893) (by decide +kernel), List.mem_of_getElem? (i := 894) (by decide +kernel)⟩
theorem lw_p39 : lw_okq (⟨"RandomWalksLaw", "areAbsorptions", "(LRandomWalks;I)Z"⟩, 8) := ⟨⟨by decide +kernel, by decide +kernel⟩, List.mem_of_getElem? (i := 508) (by decide +kernel), List.mem_of_getElem? (i := 897) (by decide +kernel), List.mem_of_getElem? (i := 898) (by decide +kernel)⟩
theorem lw_p40 : lw_okq (⟨"RandomWalks", "requireAbsorbingWay", "(I)V"⟩, 12) := ⟨⟨by decide +kernel, by decide +kernel⟩, List.mem_of_getElem? (i := 31) (by decide +kernel), List.mem_of_getElem? (i := 907) (by decide +kernel), List.mem_of_getElem? (i := 908) (by decide +kernel)⟩
theorem lw_p41 : lw_okq (⟨"RandomWalks", "findAbsorption", "(II)V"⟩, 12) := ⟨⟨by decide +kernel, by decide +kernel⟩, List.mem_of_getElem? (i := 31) (by decide +kernel), List.mem_of_getElem? (i := 913) (by decide +kernel), List.mem_of_getElem? (i := 914) (by decide +kernel)⟩
theorem lw_p42 : lw_okq (⟨"RandomWalksLaw", "treesOf", "(II[I)J"⟩, 8) := ⟨⟨by decide +kernel, by decide +kernel⟩, List.mem_of_getElem? (i := 508) (by decide +kernel), List.mem_of_getElem? (i := 919) (by decide +kernel), List.mem_of_getElem? (i := 920) (by decide +kernel)⟩
theorem lw_p43 : lw_okq (⟨"RandomWalksLaw", "areWalks", "(LRandomWalks;III)Z"⟩, 8) := ⟨⟨by decide +kernel, by decide +kernel⟩, List.mem_of_getElem? (i := 508) (by decide +kernel), List.mem_of_getElem? (i := 925) (by decide +kernel), List.mem_of_getElem? (i := 926) (by decide +kernel)⟩
theorem lw_p44 : lw_okq (⟨"RandomWalks$Stroll", "drawStep", "(LRandomWalks$Graph;)I"⟩, 5) := ⟨⟨by decide +kernel, by decide +kernel⟩, List.mem_of_getElem? (i := 260) (by decide +kernel), List.mem_of_getElem? (i := 944) (by decide +kernel), List.mem_of_getElem? (i := 945) (by decide +kernel)⟩
def lw_privs_3 : List (MethodName × Nat) := [(⟨"RandomWalks", "requireWay", "(II)V"⟩, 12), (⟨"RandomWalks$Graph", "neighbours", "(I)I"⟩, 10), (⟨"RandomWalks", "gainCosts", "()V"⟩, 12), (⟨"RandomWalks$Costs", "evaluate", "([IIII)I"⟩, 2), (⟨"RandomWalks", "gainSteps", "()V"⟩, 12), (⟨"RandomWalksLaw", "isMean", "([J[J[Z[ZI)Z"⟩, 8), (⟨"RandomWalksLaw", "isAbsorbing", "(I)Z"⟩, 8), (⟨"RandomWalksLaw", "areAbsorptions", "(LRandomWalks;I)Z"⟩, 8), (⟨"RandomWalks", "requireAbsorbingWay", "(I)V"⟩, 12), (⟨"RandomWalks", "findAbsorption", "(II)V"⟩, 12), (⟨"RandomWalksLaw", "treesOf", "(II[I)J"⟩, 8), (⟨"RandomWalksLaw", "areWalks", "(LRandomWalks;III)Z"⟩, 8), (⟨"RandomWalks$Stroll", "drawStep", "(LRandomWalks$Graph;)I"⟩, 5)]
theorem lw_r3 : ∀ q ∈ lw_privs_3, lw_okq q := List.forall_mem_cons.mpr ⟨lw_p32, List.forall_mem_cons.mpr ⟨lw_p33, List.forall_mem_cons.mpr ⟨lw_p34, List.forall_mem_cons.mpr ⟨lw_p35, List.forall_mem_cons.mpr ⟨lw_p36, List.forall_mem_cons.mpr ⟨lw_p37, List.forall_mem_cons.mpr ⟨lw_p38, List.forall_mem_cons.mpr ⟨lw_p39, List.forall_mem_cons.mpr ⟨lw_p40, List.forall_mem_cons.mpr ⟨lw_p41, List.forall_mem_cons.mpr ⟨lw_p42, List.forall_mem_cons.mpr ⟨lw_p43, List.forall_mem_cons.mpr ⟨lw_p44, fun _ h => absurd h List.not_mem_nil⟩⟩⟩⟩⟩⟩⟩⟩⟩⟩⟩⟩⟩
def lw_privs : List (MethodName × Nat) := lw_privs_1 ++ (lw_privs_2 ++ (lw_privs_3))
/-- the private methods of StringBuilder's parent that are called on a StringBuilder -/
def sb_ys : List MethodName := [⟨"java/lang/AbstractStringBuilder", "ensureCapacityInternal", "(I)V"⟩, ⟨"java/lang/AbstractStringBuilder", "newCapacity", "(I)I"⟩, ⟨"java/lang/AbstractStringBuilder", "putStringAt", "(ILjava/lang/String;)V"⟩, ⟨"java/lang/AbstractStringBuilder", "inflateIfNeededFor", "(Ljava/lang/String;)V"⟩]
def sb_sels : List Cond := sb_ys.map fun y => Cond.selects "java/lang/StringBuilder" y y
theorem sb_selp {y z : MethodName} {s : State} {args : Array Value} {C : String} (hy : y.cls ≠ "java/lang/invoke/MethodHandle" ∧ y.cls ≠ "java/lang/invoke/VarHandle") (hyz : y.cls = z.cls)
    (hs : (Cond.selects C z z).before args s = true) (hpriv : (Cond.privateMethod y).before args s = true) (hinst : (Cond.instanceMethod y).before args s = true) : (Cond.selects C y y).before args s = true := by
  obtain ⟨c, r2, m2, q1, q2, q3, q4, kP, hkP, hkPi⟩ := Cond.selects_spec hs
  obtain ⟨mk, methM, hnamed, hmethM, -, -⟩ := Cond.instanceMethod_spec hinst
  have hfound : s.methodFound? y.cls y.name y.desc = some mk := State.methodFound?_of_named hnamed hy
  have e1 := findClass_of_methodNamed hnamed
  have e2 := findClass_of_methodNamed q3
  rw [hyz] at e1
  have hcls : mk.cls = m2.cls := Option.some.inj (e1.symm.trans e2)
  have hsel : selectMethod {} s.vm c mk = .method mk := selectMethod_private hmethM (Cond.privateMethod_at hpriv mk methM hnamed hmethM)
  simp only [Cond.before, Cond.holds, Cond.value, q1, hfound, hnamed, hsel, hcls, hkP]
  simp
  exact hkPi
def lw_tbl : List Cond := (k2_sels lw_privs ++ tables_1) ++ sb_sels
theorem lw_privs_ok : ∀ q ∈ lw_privs, lw_okq q := by
  show ∀ q ∈ lw_privs_1 ++ (lw_privs_2 ++ (lw_privs_3)), lw_okq q
  exact List.forall_mem_append.mpr ⟨lw_r1, List.forall_mem_append.mpr ⟨lw_r2, lw_r3⟩⟩
/-- the streams that the claim lets the run draw from -/
abbrev lw_cs : List Choice := [Jvm.Choice.named "NaN.bits"]
theorem lw_bits : nanBits ∈ lw_cs := by first | decide | exact List.mem_cons_self | simp [lw_cs, nanBits]
end
section
/-! ===== BEGIN words of one list among another's, by their places ===== -/
theorem goodIn_r {big : List Cond} (ws : List Cond) (ps : List Nat) (hp : ws = ps.filterMap (fun i => big[i]?)) (h : ws.all goodWord = true) : GoodIn big ws := by
  intro w hw
  have h1 := List.all_eq_true.mp h w hw
  rw [hp] at hw
  obtain ⟨i, -, hi⟩ := List.mem_filterMap.mp hw
  have hm : w ∈ big := by first | exact List.mem_of_getElem? hi | exact List.getElem?_mem hi
  exact ⟨hm, good_of_word h1⟩
theorem goodIn_app {big a b : List Cond} (ha : GoodIn big a) (hb : GoodIn big b) : GoodIn big (a ++ b) := fun w h => (List.mem_append.mp h).elim (ha w) (hb w)
theorem goodIn_ca {big a b : List Cond} {c : Cond} (ha : GoodIn big (c :: a)) (hb : GoodIn big b) : GoodIn big (c :: (a ++ b)) := fun w h => (List.mem_cons.mp h).elim (fun e => ha w (List.mem_cons.mpr (Or.inl e))) (fun h => (List.mem_append.mp h).elim (fun h => ha w (List.mem_cons.mpr (Or.inr h))) (hb w))
theorem goodIn_sub {big ws : List Cond} (hm : ∀ w ∈ ws, w ∈ big) (h : ws.all goodWord = true) : GoodIn big ws := fun w hw => ⟨hm w hw, good_of_word (List.all_eq_true.mp h w hw)⟩
/-! ===== END ===== -/


/-! ===== BEGIN exceptions that leave a method, and their catching by the caller (launches without stack traces) ===== -/
section VXA
/-! The laws vx_back, vx_callV, vx_callS, vx_callSW, vx_throw0, vx_throwS follow proofs of the library, with one case more: JvmDerived/Free/Laws.lean (Back.of_free), Shelf42/LK1.lean (callV, callS), Shelf/KitTraced.lean (throwNew0V, throwNewS). -/
/-- where a method has thrown q: the class by its name, the cell, what was written, the world -/
def vx_T (XC : String → State → State → Prop) (st : State) (q : Addr) (t : State) (mc ms : Nat) (free : Addr → Prop) : Prop :=
  ∃ (E : String) (ce : Cell) (L : List Loc), XC E st t ∧ t.heap[q]? = some ce ∧ ce.vm = .none ∧ st.vm.findClass E = some ce.cls ∧ st.WarmedH t.vm ∧ st.sameButNew ({ t with vm := st.vm } : State) L mc ms ∧ ∀ z ∈ L, free z.base
def vx_Q (Qc : Array Value → State → Outcome → State → Prop) (XC : String → State → State → Prop) (mc ms : Nat) (free : Addr → Prop) : Array Value → State → Outcome → State → Prop := fun a st o t =>
  (Qc a st o t ∧ ∃ L, FrameEnd st o t L mc ms ∧ ∀ q ∈ L, free q.base) ∨ ∃ q, o = .threw q ∧ vx_T XC st q t mc ms free
/-- a callee that returns or throws -/
def vx_Met (l : Launch) (y : MethodName) (ws : List Cond) (rm : Room) (Pc : Array Value → State → Prop) (Qc : Array Value → State → Outcome → State → Prop) (XC : String → State → State → Prop) (mc ms : Nat) (free : Addr → Prop) : Prop :=
  MetFree l y (headSpec ws rm) Pc (fun _ _ _ _ _ => True) (vx_Q Qc XC mc ms free)
def vx_Post (XC : String → State → State → Prop) (mc ms : Nat) (free : Addr → Prop) : Pt → Array Value → Addr → Pt → Prop := fun A a q B =>
  ∃ (g : JFrame) (mk : MethodId) (t : State) (L : List Loc) (E : String) (ce : Cell), B.U.heap = t.heap ∧ B.U.vm = t.vm ∧ XC E (A.U.calling g mk a) t ∧ t.heap[q]? = some ce ∧ ce.vm = .none ∧ A.U.vm.findClass E = some ce.cls ∧ B.locs = A.locs ++ L ∧ (∀ z ∈ L, free z.base) ∧ B.cells = A.cells + mc ∧ B.slots = A.slots + ms
def vx_Back (l : Launch) (R : Room) (p : Program) (e : Env) (below : List Frame) (s : State) (sargs : Array Value) (y : MethodName) (len W9 : Nat)
    (Pre : Pt → Array Value → Prop) (Post : Pt → Array Value → Option Value → Pt → Prop) (PostX : Pt → Array Value → Addr → Pt → Prop) : Prop :=
  ∀ (m : MethodId) (meth : Method) (c : Code) (A : Pt) (g : JFrame) (ig : Instr) (mk : MethodId) (a : Array Value),
    Stand p l e R s m sargs below meth c A.U A.locs A.cells A.slots → g.method = m → g.locals.size = c.maxLocals → decode c.code g.pc = .ok (ig, len) →
    2 * g.monitorRoom + (g.stack.map fun v => v.category).sum ≤ W9 → A.U.methodNamed? y = some mk → Pre A a →
    (∃ (v : Option Value) (B : Pt), Stand p l e R s m sargs below meth c B.U B.locs B.cells B.slots ∧ Post A a v B ∧
      Steps p.tables e below (doInvoke e (A.U.setTop g) [] mk a).1 (B.U.setTop { g with pc := g.pc + len, stack := v.toList ++ g.stack })) ∨
    (∃ (q : Addr) (B : Pt), Stand p l e R s m sargs below meth c B.U B.locs B.cells B.slots ∧ PostX A a q B ∧
      Steps p.tables e below (doInvoke e (A.U.setTop g) [] mk a).1 ((B.U.setTop g).pushFrame (.throwing q)))
section Payer
variable {l : Launch} {R : Room} {p : Program} {e : Env} {below : List Frame} {s : State} {sargs : Array Value} {y : MethodName} {len W9 : Nat}
theorem vx_back {ws : List Cond} {rm : Room} {Pc : Array Value → State → Prop} {Qc : Array Value → State → Outcome → State → Prop} {XC : String → State → State → Prop} {mc ms : Nat} {free : Addr → Prop} {bytes : ByteArray} {maxL : Nat} {ret : Option FieldType}
    (hM : vx_Met l y ws rm Pc Qc XC mc ms free) (hblind : FrameBlind Pc) (hrc : rm.cells = mc) (hrs : rm.slots = ms)
    (hframes : rm.frames + 1 ≤ R.frames) (hlocals : W9 + (maxL + 11) + rm.locals ≤ R.locals)
    (hws : ∀ w ∈ ws, ∀ a' U, s.WarmedH U.vm → w.before a' U = true) (hcode : Cond.code y bytes maxL ret ∈ ws) (hinit : ∀ a' U, s.WarmedH U.vm → (Cond.initialized y.cls).before a' U = true) :
    vx_Back l R p e below s sargs y len W9 (PreOf R mc ms Pc) (PostOf Qc mc ms free) (vx_Post XC mc ms free) := by
  intro m meth c A g ig mk a X hg hsize hdg hW hn hp
  have h1 : (headSpec ws rm).pre.before a A.U = true := atoms_intro fun w hw => hws w hw _ _ X.warmed
  have h2 : (Cond.code y bytes maxL ret).before a A.U = true := hws _ hcode _ _ X.warmed
  have h3 : (Cond.initialized y.cls).before a A.U = true := hinit _ _ X.warmed
  have h4 : A.cells + (headSpec ws rm).room.cells ≤ R.cells := by rw [show (headSpec ws rm).room.cells = mc from hrc]; exact hp.1
  have h5 : A.slots + (headSpec ws rm).room.slots ≤ R.slots := by rw [show (headSpec ws rm).room.slots = ms from hrs]; exact hp.2.1
  have hPc : Pc a (A.U.calling g mk a) := hblind _ _ _ _ hp.2.2
  obtain ⟨U, Ls, c0, s0⟩ := A
  dsimp only [Pt.U, Pt.locs, Pt.cells, Pt.slots] at h1 h2 h3 h4 h5 X hn hPc ⊢
  obtain ⟨methY, cY, hmY, hcY, -, hlY, -, -, -, -⟩ := Cond.code_spec hn h2
  obtain ⟨kY, hkY, -⟩ := className_of_methodNamed hn
  have hinitY : kY.init = .initialized := Cond.initialized_spec (findClass_of_methodNamed hn) hkY h3
  have h : At U g.method c below := by rw [hg]; exact X.here
  have hlocals9 : W9 + (maxL + 11) + (headSpec ws rm).room.locals ≤ R.locals := hlocals
  have happ : (headSpec ws rm).appliesLoose y e.platform (U.calling g mk a) = true :=
    Spec.appliesLoose_calling (g := g) h hdg hn hkY hinitY
      (X.room_calling (g := g) (R' := (headSpec ws rm).room) hsize hmY hcY hframes (by rw [hlY]; omega) h4 h5) h1
  obtain ⟨mid, hmid⟩ := h.above
  have hfr : (U.setTop g).frames = (.java g :: mid) ++ below := by rw [State.frames_setTop' g h.top, hmid]; rfl
  obtain ⟨o, s₂, hsteps, -, hend, hq⟩ := Steps.callFree hM p X.admits X.cas X.clock (acts := []) hfr happ hPc trivial
  have hq' : vx_Q Qc XC mc ms free a (U.calling g mk a) o s₂ := hq
  rw [State.frames_setTop' g h.top] at hend
  obtain ⟨g₀, hg0⟩ := Option.isSome_iff_exists.mp h.top
  obtain ⟨r, hr⟩ := State.topJava?_eq_some.mp hg0
  have hr' : (({ U with heap := s₂.heap, slotsUsed := s₂.slotsUsed } : State).setVm s₂.vm).frames = .java g₀ :: r := hr
  rcases hq' with ⟨hqc, L, hfe, hL⟩ | ⟨q, rfl, E, ce, L, hx, hce, hcv, hcl, hW₂, hsm, hL⟩
  · obtain ⟨⟨v, rfl⟩, hW₂, e2, q2, q3, q4, q5, q6⟩ := id hfe
    have e3 : s₂ = ({ (U.calling g mk a).setFrames s₂.frames with heap := s₂.heap, slotsUsed := s₂.slotsUsed } : State).setVm s₂.vm := by
      have : s₂ = ({ s₂ with vm := (U.calling g mk a).vm } : State).setVm s₂.vm := rfl
      rw [e2] at this
      exact this
    obtain ⟨c₂, i₂, len₂, hc₂, hd₂, hf₂⟩ := hend
    have hW' : U.WarmedH s₂.vm := hW₂
    have hcc : c₂ = c := by
      have h1 : s₂.code? g.method = U.code? g.method := by
        rw [State.code?_eq, State.code?_eq, hW'.alike.method?]
      exact Option.some.inj (hc₂.symm.trans (h1.trans h.code))
    subst hcc
    have hlen : len₂ = len := by rw [hdg] at hd₂; cases hd₂; rfl
    subst hlen
    have hs₂ : s₂ = (({ U with heap := s₂.heap, slotsUsed := s₂.slotsUsed } : State).setVm s₂.vm).setTop { g with pc := g.pc + len₂, stack := v.toList ++ g.stack } := by
      refine e3.trans ?_
      rw [hf₂, State.calling_eq h.top, State.setFrames_setFrames, State.setTop_of_frames _ hr', hr]
      rfl
    have hsame : U.sameButNew ({ U with heap := s₂.heap, slotsUsed := s₂.slotsUsed } : State) L mc ms := by
      refine ⟨?_, q2, q3, q4, q5, q6⟩
      obtain ⟨t, ht, -⟩ := State.frames_cons hr
      show ({ U with heap := s₂.heap, slotsUsed := s₂.slotsUsed } : State) = { U.setFrames U.frames with heap := s₂.heap, slotsUsed := s₂.slotsUsed }
      rw [State.setFrames_self ht]
    subst hg
    refine Or.inl ⟨v, ⟨(({ U with heap := s₂.heap, slotsUsed := s₂.slotsUsed } : State).setVm s₂.vm), Ls ++ L, c0 + mc, s0 + ms⟩,
      ⟨X.admits, X.cas, X.clock, X.frames, X.room, X.hears, X.method, X.code, (X.here.setHeapUsed s₂.heap s₂.slotsUsed).setVm hW'.alike, X.tail, State.WarmedH.trans X.warmed hW', X.limits, X.bytes, X.same.trans (hsame.setVm s.vm)⟩,
      ⟨g, mk, s₂, L, rfl, rfl, hqc, rfl, hL, rfl, rfl⟩, ?_⟩
    show Steps p.tables e below _ ((({ U with heap := s₂.heap, slotsUsed := s₂.slotsUsed } : State).setVm s₂.vm).setTop { g with pc := g.pc + len₂, stack := v.toList ++ g.stack })
    rw [← hs₂]
    exact hsteps
  · obtain ⟨e2, q2, q3, q4, q5, q6⟩ := id hsm
    have e3 : s₂ = ({ (U.calling g mk a).setFrames s₂.frames with heap := s₂.heap, slotsUsed := s₂.slotsUsed } : State).setVm s₂.vm := by
      have : s₂ = ({ s₂ with vm := (U.calling g mk a).vm } : State).setVm s₂.vm := rfl
      rw [e2] at this
      exact this
    have hf₂ : s₂.frames = .throwing q :: .java g :: U.frames.tail := hend
    have hW' : U.WarmedH s₂.vm := hW₂
    have hs₂ : s₂ = ((({ U with heap := s₂.heap, slotsUsed := s₂.slotsUsed } : State).setVm s₂.vm).setTop g).pushFrame (.throwing q) := by
      refine e3.trans ?_
      rw [hf₂, State.calling_eq h.top, State.setFrames_setFrames, State.pushFrame, State.frames_setTop _ hr', State.setTop_of_frames _ hr', State.setFrames_setFrames, hr]
      rfl
    have hsame : U.sameButNew ({ U with heap := s₂.heap, slotsUsed := s₂.slotsUsed } : State) L mc ms := by
      refine ⟨?_, q2, q3, q4, q5, q6⟩
      obtain ⟨t, ht, -⟩ := State.frames_cons hr
      show ({ U with heap := s₂.heap, slotsUsed := s₂.slotsUsed } : State) = { U.setFrames U.frames with heap := s₂.heap, slotsUsed := s₂.slotsUsed }
      rw [State.setFrames_self ht]
    subst hg
    refine Or.inr ⟨q, ⟨(({ U with heap := s₂.heap, slotsUsed := s₂.slotsUsed } : State).setVm s₂.vm), Ls ++ L, c0 + mc, s0 + ms⟩,
      ⟨X.admits, X.cas, X.clock, X.frames, X.room, X.hears, X.method, X.code, (X.here.setHeapUsed s₂.heap s₂.slotsUsed).setVm hW'.alike, X.tail, State.WarmedH.trans X.warmed hW', X.limits, X.bytes, X.same.trans (hsame.setVm s.vm)⟩,
      ⟨g, mk, s₂, L, E, ce, rfl, rfl, hx, hce, hcv, hcl, rfl, hL, rfl, rfl⟩, ?_⟩
    show Steps p.tables e below _ (((({ U with heap := s₂.heap, slotsUsed := s₂.slotsUsed } : State).setVm s₂.vm).setTop g).pushFrame (.throwing q))
    rw [← hs₂]
    exact hsteps
end Payer
section Calls
variable {p : Program} {l : Launch} {e : Env} {R : Room} {s : State} {m : MethodId} {args : Array Value} {below : List Frame} {meth : Method} {c : Code} {T : State} {locs : List Loc} {cells slots : Nat}
theorem vx_callV (X : Stand p l e R s m args below meth c T locs cells slots) (hexec : p.tables.exec = Jvm.exec) {own C : String} {index : Nat} {y : MethodName} {bytes : ByteArray} {maxL : Nat} {ret : Option FieldType}
    (hown : s.vm.findClass own = some m.cls) (hlink : (Cond.methodLink own index y).before args s = true) (hinst : (Cond.instanceMethod y).before args s = true) (hsel : (Cond.selects C y y).before args s = true)
    (hcode : (Cond.code y bytes maxL ret).before args s = true) (hy : y.cls ≠ "java/lang/invoke/MethodHandle" ∧ y.cls ≠ "java/lang/invoke/VarHandle")
    {W9 : Nat} {Pre : Pt → Array Value → Prop} {Post : Pt → Array Value → Option Value → Pt → Prop} {PostX : Pt → Array Value → Addr → Pt → Prop} (hK : vx_Back l R p e below s args y 3 W9 Pre Post PostX)
    {b : Addr} {cellB : Cell} (hcell : T.heap[b]? = some cellB) (hobj : cellB.vm.isStatics = false) (hcls : s.vm.findClass C = some cellB.cls)
    {g : JFrame} (hg : g.method = m) (hsize : g.locals.size = c.maxLocals) {argsL rest : List Value} (hlen : ∀ sig, parseMethodDescriptor y.desc = some sig → argsL.length = sig.parameters.length)
    (hstack : g.stack = argsL.reverse ++ .ref b :: rest) (hW : 2 * g.monitorRoom + (rest.map fun v => v.category).sum ≤ W9) (hdg : decode c.code g.pc = .ok (.invokevirtual index, 3))
    (hpre : ∀ vm₁, s.WarmedH vm₁ → Pre ⟨T.setVm vm₁, locs, cells, slots⟩ (Value.ref b :: argsL).toArray) :
    (∃ (v : Option Value) (vm₁ : Vm) (B : Pt), s.WarmedH vm₁ ∧ Stand p l e R s m args below meth c B.U B.locs B.cells B.slots ∧ Post ⟨T.setVm vm₁, locs, cells, slots⟩ (Value.ref b :: argsL).toArray v B ∧
      ∀ target, Steps p.tables e below (B.U.setTop { g with pc := g.pc + 3, stack := v.toList ++ rest }) target → Steps p.tables e below (T.setTop g) target) ∨
    (∃ (q : Addr) (vm₁ : Vm) (B : Pt), s.WarmedH vm₁ ∧ Stand p l e R s m args below meth c B.U B.locs B.cells B.slots ∧ PostX ⟨T.setVm vm₁, locs, cells, slots⟩ (Value.ref b :: argsL).toArray q B ∧
      Steps p.tables e below (T.setTop g) ((B.U.setTop { g with stack := rest }).pushFrame (.throwing q))) := by
  obtain ⟨mk, methM, hnamed, hmethM, hstM, habM⟩ := Cond.instanceMethod_spec hinst
  obtain ⟨methM', cM, hmethM', -, -, -, -, -, -, hsigM⟩ := Cond.code_spec hnamed hcode
  cases hmethM.symm.trans hmethM'
  obtain ⟨c2, r2, m2, q1, q2, q3, q4, kP, hkP, hkPi⟩ := Cond.selects_spec hsel
  cases hcls.symm.trans q1
  cases (State.methodFound?_of_named hnamed hy).symm.trans q2
  cases hnamed.symm.trans q3
  have hselP : selectMethod e.platform s.vm cellB.cls mk = .method mk := by rw [Launch.admits_selectMethod X.admits]; exact q4
  obtain ⟨vm₁, X₁, hstep₁⟩ := X.invokevirtual hexec hown hlink hnamed hmethM hstM hkP hkPi hy (a := b) (cell := cellB) hcell
    (fun z h => by rw [h] at hobj; cases hobj) hselP hmethM habM hkP hkPi (g := g) hg (argsL := argsL) (rest := rest) (hlen _ hsigM) hstack hdg
  rcases hK m meth c ⟨T.setVm vm₁, locs, cells, slots⟩ { g with stack := rest } (.invokevirtual index) mk (Value.ref b :: argsL).toArray X₁ hg hsize hdg hW (X₁.named hnamed) (hpre vm₁ X₁.warmed) with ⟨v, B, X', hpost, hsteps⟩ | ⟨q, B, X', hpost, hsteps⟩
  · exact Or.inl ⟨v, vm₁, B, X₁.warmed, X', hpost, fun target h => hstep₁ _ fun acts => by rw [doInvoke_state]; exact hsteps.trans h⟩
  · exact Or.inr ⟨q, vm₁, B, X₁.warmed, X', hpost, hstep₁ _ fun acts => by rw [doInvoke_state]; exact hsteps⟩
theorem vx_callS (X : Stand p l e R s m args below meth c T locs cells slots) (hexec : p.tables.exec = Jvm.exec) {own : String} {index : Nat} {y : MethodName} {bytes : ByteArray} {maxL : Nat} {ret : Option FieldType}
    (hown : s.vm.findClass own = some m.cls) (hlink : (Cond.methodLink own index y).before args s = true) (hstat : (Cond.static y).before args s = true) (hinit : (Cond.initialized y.cls).before args s = true)
    (hcode : (Cond.code y bytes maxL ret).before args s = true) (hy : y.cls ≠ "java/lang/invoke/MethodHandle" ∧ y.cls ≠ "java/lang/invoke/VarHandle")
    {W9 : Nat} {Pre : Pt → Array Value → Prop} {Post : Pt → Array Value → Option Value → Pt → Prop} {PostX : Pt → Array Value → Addr → Pt → Prop} (hK : vx_Back l R p e below s args y 3 W9 Pre Post PostX)
    {g : JFrame} (hg : g.method = m) (hsize : g.locals.size = c.maxLocals) {argsL rest : List Value} (hlen : ∀ sig, parseMethodDescriptor y.desc = some sig → argsL.length = sig.parameters.length)
    (hstack : g.stack = argsL.reverse ++ rest) (hW : 2 * g.monitorRoom + (rest.map fun v => v.category).sum ≤ W9) (hdg : decode c.code g.pc = .ok (.invokestatic index, 3))
    (hpre : ∀ vm₁, s.WarmedH vm₁ → Pre ⟨T.setVm vm₁, locs, cells, slots⟩ argsL.toArray) :
    (∃ (v : Option Value) (vm₁ : Vm) (B : Pt), s.WarmedH vm₁ ∧ Stand p l e R s m args below meth c B.U B.locs B.cells B.slots ∧ Post ⟨T.setVm vm₁, locs, cells, slots⟩ argsL.toArray v B ∧
      ∀ target, Steps p.tables e below (B.U.setTop { g with pc := g.pc + 3, stack := v.toList ++ rest }) target → Steps p.tables e below (T.setTop g) target) ∨
    (∃ (q : Addr) (vm₁ : Vm) (B : Pt), s.WarmedH vm₁ ∧ Stand p l e R s m args below meth c B.U B.locs B.cells B.slots ∧ PostX ⟨T.setVm vm₁, locs, cells, slots⟩ argsL.toArray q B ∧
      Steps p.tables e below (T.setTop g) ((B.U.setTop { g with stack := rest }).pushFrame (.throwing q))) := by
  obtain ⟨mk, hnamed⟩ := Cond.code_named hcode
  obtain ⟨methM, cM, hmethM, -, -, -, -, -, -, hsigM⟩ := Cond.code_spec hnamed hcode
  have hstatic : methM.isStatic = true := Cond.static_spec hnamed hmethM hstat
  obtain ⟨kP, hkP, -⟩ := className_of_methodNamed hnamed
  have hinitP : kP.init = .initialized := Cond.initialized_spec (findClass_of_methodNamed hnamed) hkP hinit
  obtain ⟨vm₁, X₁, hstep₁⟩ := X.invokestatic hexec hown hlink hnamed hmethM hstatic hkP hinitP hy (g := g) hg (argsL := argsL) (rest := rest) (hlen _ hsigM) hstack hdg
  rcases hK m meth c ⟨T.setVm vm₁, locs, cells, slots⟩ { g with stack := rest } (.invokestatic index) mk argsL.toArray X₁ hg hsize hdg hW (X₁.named hnamed) (hpre vm₁ X₁.warmed) with ⟨v, B, X', hpost, hsteps⟩ | ⟨q, B, X', hpost, hsteps⟩
  · exact Or.inl ⟨v, vm₁, B, X₁.warmed, X', hpost, fun target h => hstep₁ _ fun acts => by rw [doInvoke_state]; exact hsteps.trans h⟩
  · exact Or.inr ⟨q, vm₁, B, X₁.warmed, X', hpost, hstep₁ _ fun acts => by rw [doInvoke_state]; exact hsteps⟩
end Calls
theorem vx_cls {s : State} {T : State} {vm₁ : Vm} {E : String} {k : ClassId} (hW : s.WarmedH vm₁) (h : (T.setVm vm₁).vm.findClass E = some k) : s.vm.findClass E = some k := by
  have h1 : vm₁.findClass E = some k := h
  rw [hW.alike.findClass] at h1
  exact h1
/-- the method's frame g, with q thrown over it -/
def vx_W (p : Program) (l : Launch) (e : Env) (R : Room) (s : State) (m : MethodId) (args : Array Value) (below : List Frame) (meth : Method) (c : Code) (H : Heap) (locs : List Loc) (cells slots : Nat) (Q : State → Prop) (g : JFrame) (q : Addr) : Prop :=
  ∀ T : State, T.heap = H → Stand p l e R s m args below meth c T locs cells slots → ∃ t, Steps p.tables e below ((T.setTop g).pushFrame (.throwing q)) t ∧ Q t
def vx_Run (p : Program) (l : Launch) (e : Env) (R : Room) (s : State) (m : MethodId) (args : Array Value) (below : List Frame) (meth : Method) (c : Code) (H : Heap) (locs : List Loc) (cells slots mc ms : Nat) (g : JFrame) (rest : List Value) (Qa : State → Outcome → State → Prop) (XC : String → State → State → Prop) (free : Addr → Prop) : Prop :=
  ∀ T : State, T.heap = H → Stand p l e R s m args below meth c T locs cells slots →
    (∃ (v : Option Value) (st₀ t T' : State) (L : List Loc), st₀.heap = H ∧ Stand p l e R s m args below meth c T' (locs ++ L) (cells + mc) (slots + ms) ∧ (∀ q ∈ L, free q.base) ∧ T'.heap = t.heap ∧ T'.vm = t.vm ∧ Qa st₀ (.returned v) t ∧
      Goes p e below T g T' { g with pc := g.pc + 3, stack := v.toList ++ rest }) ∨
    (∃ (q : Addr) (st₀ t T' : State) (L : List Loc) (E : String) (ce : Cell), st₀.heap = H ∧ Stand p l e R s m args below meth c T' (locs ++ L) (cells + mc) (slots + ms) ∧ (∀ z ∈ L, free z.base) ∧ T'.heap = t.heap ∧ T'.vm = t.vm ∧ XC E st₀ t ∧ t.heap[q]? = some ce ∧ ce.vm = .none ∧ s.vm.findClass E = some ce.cls ∧
      Steps p.tables e below (T.setTop g) ((T'.setTop { g with stack := rest }).pushFrame (.throwing q)))
def vx_X {S : Type} (px : S → Prop) (B : String → S → State → Prop) (A : Nat → Prop) : String → State → State → Prop := fun E st t => ∃ u : S, px u ∧ B E u t ∧ va_F A st t
section Runs
variable {p : Program} {l : Launch} {e : Env} {R : Room} {s : State} {m : MethodId} {args : Array Value} {below : List Frame} {meth : Method} {c : Code} {H : Heap} {locs : List Loc} {cells slots : Nat}
variable {y : MethodName} {bytes cc : ByteArray} {maxL nL mc ms n index : Nat} {ret : Option FieldType} {ws : List Cond} {rm : Room} {Pc : Array Value → State → Prop} {Qc : Array Value → State → Outcome → State → Prop} {XC : String → State → State → Prop} {free : Addr → Prop} {Ts : List Cond} {own C : String} {b : Addr} {As rest : List Value} {g : JFrame}
theorem vx_callBack (cb : CallB R s args own index y bytes maxL ret ws rm mc ms n) (hM : vx_Met l y ws rm Pc Qc XC mc ms free) (hbl : FrameBlind Pc) : vx_Back l R p e below s args y 3 8 (PreOf R mc ms Pc) (PostOf Qc mc ms free) (vx_Post XC mc ms free) := by
  obtain ⟨hrc, hrs, hfr, hlo, hws, hcw, -, hini, -⟩ := cb
  exact vx_back (bytes := bytes) (maxL := maxL) (ret := ret) hM hbl hrc hrs hfr hlo hws hcw (fun a' U hW => word_at hW (Or.inl (by first | rfl | simp [Cond.onTables, Cond.keeps, Cond.steady])) hini)
theorem vx_runV (S : CallFix p m c cc nL s args Ts own) (hM : vx_Met l y ws rm Pc Qc XC mc ms free) (cw : CallW R s args own C index y bytes maxL ret ws rm mc ms n) (hp : PreV s H C b Pc As)
    (hg : g.method = m) (hn : As.length = n) (hsize : g.locals.size = nL) (hstack : g.stack = As.reverse ++ .ref b :: rest) (hW : 2 * g.monitorRoom + (rest.map fun v => v.category).sum ≤ 8) (hdg : decode cc g.pc = .ok (.invokevirtual index, 3)) (hf : cells + mc ≤ R.cells ∧ slots + ms ≤ R.slots) :
    vx_Run p l e R s m args below meth c H locs cells slots mc ms g rest (Qc (Value.ref b :: As).toArray) XC free := by
  have hK : vx_Back l R p e below s args y 3 8 (PreOf R mc ms Pc) (PostOf Qc mc ms free) (vx_Post XC mc ms free) := vx_callBack cw.1 hM hp.1
  obtain ⟨⟨-, -, -, -, -, -, hcode, -, hy, hlen, hl⟩, hin, hse⟩ := cw
  obtain ⟨hx, hb, hml, ho, -⟩ := S
  obtain ⟨-, ⟨cellB, hcB, hoB, hclB⟩, hPc⟩ := hp
  intro T hT X
  rcases vx_callV X hx (C := C) (bytes := bytes) (maxL := maxL) (ret := ret) ho hl hin hse hcode hy hK (by rw [hT]; exact hcB) hoB hclB hg (hsize.trans hml.symm) (argsL := As) (rest := rest) (fun sig h => hn.trans (hlen sig h)) hstack hW (by rw [hb]; exact hdg)
    (fun vm₁ hW₁ => ⟨hf.1, hf.2, hPc (T.setVm vm₁) hT hW₁⟩) with ⟨v, vm₁, ⟨U', l2, c2, s2⟩, hW₁, X', ⟨g', mk, t, L, e1, e2, hq, h1, hL, h2, h3⟩, st⟩ | ⟨q, vm₁, ⟨U', l2, c2, s2⟩, hW₁, X', ⟨g', mk, t, L, E, ce, e1, e2, hq, hce, hcv, hcl, h1, hL, h2, h3⟩, st⟩
  · dsimp only [Pt.U, Pt.locs, Pt.cells, Pt.slots] at X' e1 e2 h1 h2 h3 st
    subst h1; subst h2; subst h3
    exact Or.inl ⟨v, (T.setVm vm₁).calling g' mk (Value.ref b :: As).toArray, t, U', L, hT, X', hL, e1, e2, hq, st⟩
  · dsimp only [Pt.U, Pt.locs, Pt.cells, Pt.slots] at X' e1 e2 h1 h2 h3 st hcl
    subst h1; subst h2; subst h3
    exact Or.inr ⟨q, (T.setVm vm₁).calling g' mk (Value.ref b :: As).toArray, t, U', L, E, ce, hT, X', hL, e1, e2, hq, hce, hcv, vx_cls hW₁ hcl, st⟩
theorem vx_runS (S : CallFix p m c cc nL s args Ts own) (hM : vx_Met l y ws rm Pc Qc XC mc ms free) (cw : CallB R s args own index y bytes maxL ret ws rm mc ms n ∧ (Cond.static y).before args s = true) (hp : PreS s H Pc As)
    (hg : g.method = m) (hn : As.length = n) (hsize : g.locals.size = nL) (hstack : g.stack = As.reverse ++ rest) (hW : 2 * g.monitorRoom + (rest.map fun v => v.category).sum ≤ 8) (hdg : decode cc g.pc = .ok (.invokestatic index, 3)) (hf : cells + mc ≤ R.cells ∧ slots + ms ≤ R.slots) :
    vx_Run p l e R s m args below meth c H locs cells slots mc ms g rest (Qc As.toArray) XC free := by
  have hK : vx_Back l R p e below s args y 3 8 (PreOf R mc ms Pc) (PostOf Qc mc ms free) (vx_Post XC mc ms free) := vx_callBack cw.1 hM hp.1
  obtain ⟨⟨-, -, -, -, -, -, hcode, hini, hy, hlen, hl⟩, hstt⟩ := cw
  obtain ⟨hx, hb, hml, ho, -⟩ := S
  intro T hT X
  rcases vx_callS X hx (bytes := bytes) (maxL := maxL) (ret := ret) ho hl hstt hini hcode hy hK hg (hsize.trans hml.symm) (argsL := As) (rest := rest) (fun sig h => hn.trans (hlen sig h)) hstack hW (by rw [hb]; exact hdg)
    (fun vm₁ hW₁ => ⟨hf.1, hf.2, hp.2 (T.setVm vm₁) hT hW₁⟩) with ⟨v, vm₁, ⟨U', l2, c2, s2⟩, hW₁, X', ⟨g', mk, t, L, e1, e2, hq, h1, hL, h2, h3⟩, st⟩ | ⟨q, vm₁, ⟨U', l2, c2, s2⟩, hW₁, X', ⟨g', mk, t, L, E, ce, e1, e2, hq, hce, hcv, hcl, h1, hL, h2, h3⟩, st⟩
  · dsimp only [Pt.U, Pt.locs, Pt.cells, Pt.slots] at X' e1 e2 h1 h2 h3 st
    subst h1; subst h2; subst h3
    exact Or.inl ⟨v, (T.setVm vm₁).calling g' mk As.toArray, t, U', L, hT, X', hL, e1, e2, hq, st⟩
  · dsimp only [Pt.U, Pt.locs, Pt.cells, Pt.slots] at X' e1 e2 h1 h2 h3 st hcl
    subst h1; subst h2; subst h3
    exact Or.inr ⟨q, (T.setVm vm₁).calling g' mk As.toArray, t, U', L, E, ce, hT, X', hL, e1, e2, hq, hce, hcv, vx_cls hW₁ hcl, st⟩
end Runs
section Rows
variable {p : Program} {l : Launch} {e : Env} {R : Room} {s : State} {m : MethodId} {args : Array Value} {below : List Frame} {meth : Method} {c : Code} {H : Heap} {locs : List Loc} {cells slots : Nat} {Q : State → Prop}
variable {mc ms : Nat} {free : Addr → Prop} {A0 A1 : Nat → Prop} {H0 : Heap} {a : Array Value} {pc : Nat} {ls : Array Slot} {st0 rest : List Value}
theorem vx_keep {st₀ t T' : State} {L : List Loc} (h0 : st₀.heap = H) (e1 : T'.heap = t.heap) (hS : va_S A0 H0 H locs) (hA : ∀ q, q < H.size → A1 q → A0 q) (hf : ∀ q, free q → A0 q) (hL : ∀ q ∈ L, free q.base) (hF : va_F A1 st₀ t) :
    H.size ≤ T'.heap.size ∧ (∀ q : Nat, q < H.size → ¬ A1 q → T'.heap[q]? = H[q]?) ∧ va_S A0 H0 T'.heap (locs ++ L) := by
  obtain ⟨hz, hk⟩ := hF
  rw [h0] at hz hk
  exact ⟨by rw [e1]; exact hz, fun q h1 h2 => by rw [e1]; exact hk q h1 h2,
    ⟨Nat.le_trans hS.1 (by rw [e1]; exact hz), fun q h1 h2 => by rw [e1, hk q (Nat.lt_of_lt_of_le h1 hS.1) (fun z => h2 (hA q (Nat.lt_of_lt_of_le h1 hS.1) z))]; exact hS.2.1 q h1 h2, fun q hq => by
      rcases List.mem_append.mp hq with h | h
      · exact hS.2.2 q h
      · exact hf _ (hL q h)⟩⟩
theorem vx_calli {S SX : Type} {post : Int32 → S → Prop} {px : SX → Prop} {B : S → State → Prop} {BX : String → SX → State → Prop} {AX : Nat → Prop} (hr : vx_Run p l e R s m args below meth c H locs cells slots mc ms (F0 m pc ls st0) rest (va_Qi post B A1 a) (vx_X px BX AX) free) (hS : va_S A0 H0 H locs) (hA : ∀ q, q < H.size → A1 q → A0 q) (hf : ∀ q, free q → A0 q) (hAX : ∀ q, q < H.size → AX q → A0 q)
    (kx : ∀ (E : String) (ce : Cell) (q9 : Addr) (u : SX) (t : State) (H1 : Heap) (locs1 : List Loc), t.heap = H1 → s.vm.Alike t.vm → px u → BX E u t → H.size ≤ H1.size → (∀ q : Nat, q < H.size → ¬ AX q → H1[q]? = H[q]?) → va_S A0 H0 H1 locs1 → H1[q9]? = some ce → ce.vm = .none → s.vm.findClass E = some ce.cls → vx_W p l e R s m args below meth c H1 locs1 (cells + mc) (slots + ms) Q (F0 m pc ls rest) q9)
    (kk : ∀ (r : Int32) (u : S) (t : State) (H1 : Heap) (locs1 : List Loc), t.heap = H1 → s.vm.Alike t.vm → post r u → B u t → H.size ≤ H1.size → (∀ q : Nat, q < H.size → ¬ A1 q → H1[q]? = H[q]?) → va_S A0 H0 H1 locs1 → W p l e R s m args below meth c H1 locs1 (cells + mc) (slots + ms) Q (F0 m (pc + 3) ls (.int r :: rest))) : W p l e R s m args below meth c H locs cells slots Q (F0 m pc ls st0) := by
  intro T hT X
  rcases hr T hT X with ⟨v, st₀, t, T', L, h0, X', hL, e1, e2, ⟨⟨r, u, hv, hp, hb⟩, hF⟩, st⟩ | ⟨q, st₀, t, T', L, E, ce, h0, X', hL, e1, e2, ⟨u, hp, hb, hF⟩, hce, hcv, hcl, st⟩
  · cases hv
    obtain ⟨k1, k2, k3⟩ := vx_keep h0 e1 hS hA hf hL hF
    obtain ⟨t2, a1, b1⟩ := kk r u t T'.heap (locs ++ L) e1.symm (by rw [← e2]; exact X'.warmed.alike) hp hb k1 k2 k3 T' rfl X'
    exact ⟨t2, st t2 a1, b1⟩
  · obtain ⟨k1, k2, k3⟩ := vx_keep h0 e1 hS hAX hf hL hF
    obtain ⟨t2, a1, b1⟩ := kx E ce q u t T'.heap (locs ++ L) e1.symm (by rw [← e2]; exact X'.warmed.alike) hp hb k1 k2 k3 (by rw [e1]; exact hce) hcv hcl T' rfl X'
    exact ⟨t2, st.trans a1, b1⟩
theorem vx_calll {S SX : Type} {post : Int64 → S → Prop} {px : SX → Prop} {B : S → State → Prop} {BX : String → SX → State → Prop} {AX : Nat → Prop} (hr : vx_Run p l e R s m args below meth c H locs cells slots mc ms (F0 m pc ls st0) rest (va_Ql post B A1 a) (vx_X px BX AX) free) (hS : va_S A0 H0 H locs) (hA : ∀ q, q < H.size → A1 q → A0 q) (hf : ∀ q, free q → A0 q) (hAX : ∀ q, q < H.size → AX q → A0 q)
    (kx : ∀ (E : String) (ce : Cell) (q9 : Addr) (u : SX) (t : State) (H1 : Heap) (locs1 : List Loc), t.heap = H1 → s.vm.Alike t.vm → px u → BX E u t → H.size ≤ H1.size → (∀ q : Nat, q < H.size → ¬ AX q → H1[q]? = H[q]?) → va_S A0 H0 H1 locs1 → H1[q9]? = some ce → ce.vm = .none → s.vm.findClass E = some ce.cls → vx_W p l e R s m args below meth c H1 locs1 (cells + mc) (slots + ms) Q (F0 m pc ls rest) q9)
    (kk : ∀ (r : Int64) (u : S) (t : State) (H1 : Heap) (locs1 : List Loc), t.heap = H1 → s.vm.Alike t.vm → post r u → B u t → H.size ≤ H1.size → (∀ q : Nat, q < H.size → ¬ A1 q → H1[q]? = H[q]?) → va_S A0 H0 H1 locs1 → W p l e R s m args below meth c H1 locs1 (cells + mc) (slots + ms) Q (F0 m (pc + 3) ls (.long r :: rest))) : W p l e R s m args below meth c H locs cells slots Q (F0 m pc ls st0) := by
  intro T hT X
  rcases hr T hT X with ⟨v, st₀, t, T', L, h0, X', hL, e1, e2, ⟨⟨r, u, hv, hp, hb⟩, hF⟩, st⟩ | ⟨q, st₀, t, T', L, E, ce, h0, X', hL, e1, e2, ⟨u, hp, hb, hF⟩, hce, hcv, hcl, st⟩
  · cases hv
    obtain ⟨k1, k2, k3⟩ := vx_keep h0 e1 hS hA hf hL hF
    obtain ⟨t2, a1, b1⟩ := kk r u t T'.heap (locs ++ L) e1.symm (by rw [← e2]; exact X'.warmed.alike) hp hb k1 k2 k3 T' rfl X'
    exact ⟨t2, st t2 a1, b1⟩
  · obtain ⟨k1, k2, k3⟩ := vx_keep h0 e1 hS hAX hf hL hF
    obtain ⟨t2, a1, b1⟩ := kx E ce q u t T'.heap (locs ++ L) e1.symm (by rw [← e2]; exact X'.warmed.alike) hp hb k1 k2 k3 (by rw [e1]; exact hce) hcv hcl T' rfl X'
    exact ⟨t2, st.trans a1, b1⟩
theorem vx_callf {S SX : Type} {post : UInt32 → S → Prop} {px : SX → Prop} {B : S → State → Prop} {BX : String → SX → State → Prop} {AX : Nat → Prop} (hr : vx_Run p l e R s m args below meth c H locs cells slots mc ms (F0 m pc ls st0) rest (va_Qf post B A1 a) (vx_X px BX AX) free) (hS : va_S A0 H0 H locs) (hA : ∀ q, q < H.size → A1 q → A0 q) (hf : ∀ q, free q → A0 q) (hAX : ∀ q, q < H.size → AX q → A0 q)
    (kx : ∀ (E : String) (ce : Cell) (q9 : Addr) (u : SX) (t : State) (H1 : Heap) (locs1 : List Loc), t.heap = H1 → s.vm.Alike t.vm → px u → BX E u t → H.size ≤ H1.size → (∀ q : Nat, q < H.size → ¬ AX q → H1[q]? = H[q]?) → va_S A0 H0 H1 locs1 → H1[q9]? = some ce → ce.vm = .none → s.vm.findClass E = some ce.cls → vx_W p l e R s m args below meth c H1 locs1 (cells + mc) (slots + ms) Q (F0 m pc ls rest) q9)
    (kk : ∀ (r : UInt32) (u : S) (t : State) (H1 : Heap) (locs1 : List Loc), t.heap = H1 → s.vm.Alike t.vm → post r u → B u t → H.size ≤ H1.size → (∀ q : Nat, q < H.size → ¬ A1 q → H1[q]? = H[q]?) → va_S A0 H0 H1 locs1 → W p l e R s m args below meth c H1 locs1 (cells + mc) (slots + ms) Q (F0 m (pc + 3) ls (.float r :: rest))) : W p l e R s m args below meth c H locs cells slots Q (F0 m pc ls st0) := by
  intro T hT X
  rcases hr T hT X with ⟨v, st₀, t, T', L, h0, X', hL, e1, e2, ⟨⟨r, u, hv, hp, hb⟩, hF⟩, st⟩ | ⟨q, st₀, t, T', L, E, ce, h0, X', hL, e1, e2, ⟨u, hp, hb, hF⟩, hce, hcv, hcl, st⟩
  · cases hv
    obtain ⟨k1, k2, k3⟩ := vx_keep h0 e1 hS hA hf hL hF
    obtain ⟨t2, a1, b1⟩ := kk r u t T'.heap (locs ++ L) e1.symm (by rw [← e2]; exact X'.warmed.alike) hp hb k1 k2 k3 T' rfl X'
    exact ⟨t2, st t2 a1, b1⟩
  · obtain ⟨k1, k2, k3⟩ := vx_keep h0 e1 hS hAX hf hL hF
    obtain ⟨t2, a1, b1⟩ := kx E ce q u t T'.heap (locs ++ L) e1.symm (by rw [← e2]; exact X'.warmed.alike) hp hb k1 k2 k3 (by rw [e1]; exact hce) hcv hcl T' rfl X'
    exact ⟨t2, st.trans a1, b1⟩
theorem vx_calld {S SX : Type} {post : UInt64 → S → Prop} {px : SX → Prop} {B : S → State → Prop} {BX : String → SX → State → Prop} {AX : Nat → Prop} (hr : vx_Run p l e R s m args below meth c H locs cells slots mc ms (F0 m pc ls st0) rest (va_Qd post B A1 a) (vx_X px BX AX) free) (hS : va_S A0 H0 H locs) (hA : ∀ q, q < H.size → A1 q → A0 q) (hf : ∀ q, free q → A0 q) (hAX : ∀ q, q < H.size → AX q → A0 q)
    (kx : ∀ (E : String) (ce : Cell) (q9 : Addr) (u : SX) (t : State) (H1 : Heap) (locs1 : List Loc), t.heap = H1 → s.vm.Alike t.vm → px u → BX E u t → H.size ≤ H1.size → (∀ q : Nat, q < H.size → ¬ AX q → H1[q]? = H[q]?) → va_S A0 H0 H1 locs1 → H1[q9]? = some ce → ce.vm = .none → s.vm.findClass E = some ce.cls → vx_W p l e R s m args below meth c H1 locs1 (cells + mc) (slots + ms) Q (F0 m pc ls rest) q9)
    (kk : ∀ (r : UInt64) (u : S) (t : State) (H1 : Heap) (locs1 : List Loc), t.heap = H1 → s.vm.Alike t.vm → post r u → B u t → H.size ≤ H1.size → (∀ q : Nat, q < H.size → ¬ A1 q → H1[q]? = H[q]?) → va_S A0 H0 H1 locs1 → W p l e R s m args below meth c H1 locs1 (cells + mc) (slots + ms) Q (F0 m (pc + 3) ls (.double r :: rest))) : W p l e R s m args below meth c H locs cells slots Q (F0 m pc ls st0) := by
  intro T hT X
  rcases hr T hT X with ⟨v, st₀, t, T', L, h0, X', hL, e1, e2, ⟨⟨r, u, hv, hp, hb⟩, hF⟩, st⟩ | ⟨q, st₀, t, T', L, E, ce, h0, X', hL, e1, e2, ⟨u, hp, hb, hF⟩, hce, hcv, hcl, st⟩
  · cases hv
    obtain ⟨k1, k2, k3⟩ := vx_keep h0 e1 hS hA hf hL hF
    obtain ⟨t2, a1, b1⟩ := kk r u t T'.heap (locs ++ L) e1.symm (by rw [← e2]; exact X'.warmed.alike) hp hb k1 k2 k3 T' rfl X'
    exact ⟨t2, st t2 a1, b1⟩
  · obtain ⟨k1, k2, k3⟩ := vx_keep h0 e1 hS hAX hf hL hF
    obtain ⟨t2, a1, b1⟩ := kx E ce q u t T'.heap (locs ++ L) e1.symm (by rw [← e2]; exact X'.warmed.alike) hp hb k1 k2 k3 (by rw [e1]; exact hce) hcv hcl T' rfl X'
    exact ⟨t2, st.trans a1, b1⟩
theorem vx_callv {S SX : Type} {post : S → Prop} {px : SX → Prop} {B : S → State → Prop} {BX : String → SX → State → Prop} {AX : Nat → Prop} (hr : vx_Run p l e R s m args below meth c H locs cells slots mc ms (F0 m pc ls st0) rest (va_Qv post B A1 a) (vx_X px BX AX) free) (hS : va_S A0 H0 H locs) (hA : ∀ q, q < H.size → A1 q → A0 q) (hf : ∀ q, free q → A0 q) (hAX : ∀ q, q < H.size → AX q → A0 q)
    (kx : ∀ (E : String) (ce : Cell) (q9 : Addr) (u : SX) (t : State) (H1 : Heap) (locs1 : List Loc), t.heap = H1 → s.vm.Alike t.vm → px u → BX E u t → H.size ≤ H1.size → (∀ q : Nat, q < H.size → ¬ AX q → H1[q]? = H[q]?) → va_S A0 H0 H1 locs1 → H1[q9]? = some ce → ce.vm = .none → s.vm.findClass E = some ce.cls → vx_W p l e R s m args below meth c H1 locs1 (cells + mc) (slots + ms) Q (F0 m pc ls rest) q9)
    (kk : ∀ (u : S) (t : State) (H1 : Heap) (locs1 : List Loc), t.heap = H1 → s.vm.Alike t.vm → post u → B u t → H.size ≤ H1.size → (∀ q : Nat, q < H.size → ¬ A1 q → H1[q]? = H[q]?) → va_S A0 H0 H1 locs1 → W p l e R s m args below meth c H1 locs1 (cells + mc) (slots + ms) Q (F0 m (pc + 3) ls (rest))) : W p l e R s m args below meth c H locs cells slots Q (F0 m pc ls st0) := by
  intro T hT X
  rcases hr T hT X with ⟨v, st₀, t, T', L, h0, X', hL, e1, e2, ⟨⟨u, hv, hp, hb⟩, hF⟩, st⟩ | ⟨q, st₀, t, T', L, E, ce, h0, X', hL, e1, e2, ⟨u, hp, hb, hF⟩, hce, hcv, hcl, st⟩
  · cases hv
    obtain ⟨k1, k2, k3⟩ := vx_keep h0 e1 hS hA hf hL hF
    obtain ⟨t2, a1, b1⟩ := kk u t T'.heap (locs ++ L) e1.symm (by rw [← e2]; exact X'.warmed.alike) hp hb k1 k2 k3 T' rfl X'
    exact ⟨t2, st t2 a1, b1⟩
  · obtain ⟨k1, k2, k3⟩ := vx_keep h0 e1 hS hAX hf hL hF
    obtain ⟨t2, a1, b1⟩ := kx E ce q u t T'.heap (locs ++ L) e1.symm (by rw [← e2]; exact X'.warmed.alike) hp hb k1 k2 k3 (by rw [e1]; exact hce) hcv hcl T' rfl X'
    exact ⟨t2, st.trans a1, b1⟩
/-- caught by the row x of this method's table; the rows ahead don't take it -/
theorem vx_catch {own name : String} {E : String} {ce : Cell} {q : Addr} (hown : s.vm.findClass own = some m.cls) (pre : List ExceptionTableEntry) (x : ExceptionTableEntry) (suf : List ExceptionTableEntry) (hsplit : c.exceptionTable.toList = pre ++ x :: suf)
    (hpass : ∀ z ∈ pre, covers z pc = false ∨ (z.catchType ≠ 0 ∧ ∃ nm : String, (Cond.classLink own z.catchType nm).before args s = true ∧ va_Nc E nm s)) (hx : covers x pc = true) (h0 : x.catchType ≠ 0)
    (hlink : (Cond.classLink own x.catchType name).before args s = true) (hcast : (Cond.castable E name).before args s = true) (hcell : H[q]? = some ce) (hv : ce.vm = .none) (hcl : s.vm.findClass E = some ce.cls)
    (kk : W p l e R s m args below meth c H locs cells slots Q (F0 m x.handlerPc ls [.ref q])) : vx_W p l e R s m args below meth c H locs cells slots Q (F0 m pc ls rest) q := by
  intro T hT X
  have hpl : e.platform.magicAccessors = ({} : Platform).magicAccessors := by rw [X.admits.platform]
  obtain ⟨c3, c4, hc3, hc4, hasg⟩ := Cond.castable_spec hcast
  cases Option.some.inj (hc3.symm.trans hcl)
  obtain ⟨c5, hc5, hcl5⟩ := Cond.classLink_spec hown hlink e.platform hpl
  cases Option.some.inj (hc4.symm.trans hc5)
  obtain ⟨vm', X', st⟩ := X.thenCaughtThrough q (g := F0 m pc ls rest) rfl (Steps.refl _) (by rw [hT]; exact hcell) (by rw [hv]; rfl) (by obtain ⟨k9, h9, -⟩ := Vm.findClass_spec hcl; exact ⟨k9, h9⟩) pre x suf hsplit
    (fun z hz => by
      rcases hpass z hz with h | ⟨hz0, nm, hl1, hn1⟩
      · exact Or.inl h
      · obtain ⟨c6, hc6, hcl6⟩ := Cond.classLink_spec hown hl1 e.platform hpl
        obtain ⟨a8, b8, h1, h2, h3⟩ := hn1
        cases Option.some.inj (h1.symm.trans hcl)
        cases Option.some.inj (h2.symm.trans hc6)
        exact Or.inr ⟨hz0, _, hcl6, h3⟩) hx (Or.inr ⟨h0, c4, hcl5, hasg⟩)
  obtain ⟨t, a1, b1⟩ := kk (T.setVm vm') hT X'
  exact ⟨t, st.trans a1, b1⟩
end Rows
section Ends
variable {p : Program} {l : Launch} {e : Env} {R : Room} {s : State} {m : MethodId} {args : Array Value} {below : List Frame} {meth : Method} {c : Code} {H : Heap} {locs : List Loc} {cells slots : Nat} {Q : State → Prop}
variable {mc ms : Nat} {free : Addr → Prop} {A0 A1 : Nat → Prop} {H0 : Heap} {a : Array Value} {ls : Array Slot} {st0 rest : List Value}
variable {Qc : Array Value → State → Outcome → State → Prop} {XC : String → State → State → Prop}
/-- what a body that may throw owes at its end -/
def vx_MQ (below : List Frame) (Qc : Array Value → State → Outcome → State → Prop) (XC : String → State → State → Prop) (a : Array Value) (s : State) (mc ms : Nat) (free : Addr → Prop) : State → Prop := fun t =>
  ∃ o, t.status = .running ∧ Ended t below o ∧ vx_Q Qc XC mc ms free a s o t
theorem vx_ret {g : JFrame} {mc ms : Nat} (k : W p l e R s m args below meth c H locs cells slots (MQ below Qc args s mc ms free) g) : W p l e R s m args below meth c H locs cells slots (vx_MQ below Qc XC args s mc ms free) g := by
  intro T hT X
  obtain ⟨t, a1, o, b1, b2, b3, b4⟩ := k T hT X
  exact ⟨t, a1, o, b1, b2, Or.inl ⟨b3, b4⟩⟩
/-- not caught here: it goes on to the caller -/
theorem vx_widen {g : JFrame} {q : Addr} {k n : Nat} (h1 : cells ≤ k) (h2 : slots ≤ n) (kk : vx_W p l e R s m args below meth c H locs k n Q g q) : vx_W p l e R s m args below meth c H locs cells slots Q g q := fun T hT X => kk T hT (stand_widen X h1 h2)
theorem vx_out {pc : Nat} {E : String} {ce : Cell} {q : Addr} {mc ms : Nat} (hout : ∀ x ∈ c.exceptionTable.toList, covers x pc = false) (hlocks : meth.locks = false) (hcell : H[q]? = some ce) (hv : ce.vm = .none) (hcl : s.vm.findClass E = some ce.cls)
    (hx : ∀ t : State, t.heap = H → s.vm.Alike t.vm → XC E s t) (hf : ∀ z ∈ locs, free z.base) (hc : cells ≤ mc) (hs : slots ≤ ms) :
    vx_W p l e R s m args below meth c H locs cells slots (vx_MQ below Qc XC args s mc ms free) (F0 m pc ls rest) q := by
  intro T hT X
  obtain ⟨st1, hrun, hend, hW, hsm⟩ := X.leaveThrown q (g := F0 m pc ls rest) rfl rfl rfl hout hlocks
  have hcell9 : (T.setFrames (.throwing q :: below)).heap[q]? = some ce := by
    show T.heap[q]? = some ce
    rw [hT]; exact hcell
  exact ⟨_, st1, .threw q, hrun, hend, Or.inr ⟨q, rfl, E, ce, locs, hx _ hT hW.alike, hcell9, hv, hcl, hW, hsm.mono hc hs, hf⟩⟩
theorem vx_frame {U : State} {k n : Nat} (h : s.sameButNew ({ U with vm := s.vm } : State) locs k n) : s.heap.size ≤ U.heap.size ∧ ∀ q : Nat, q < s.heap.size → (∀ z ∈ locs, z.base ≠ q) → U.heap[q]? = s.heap[q]? := by
  obtain ⟨-, h2, -, -, -, h6⟩ := h
  refine ⟨h2, fun q hq hz => ?_⟩
  obtain ⟨c9, e1, e2, e3, e4⟩ := h6 q _ (Array.getElem?_eq_getElem hq)
  have hs : c9.slots = (s.heap[q]).slots := Array.ext_getElem? fun i => e4 i fun hm => hz _ hm rfl
  have h9 : c9 = s.heap[q] := by
    rw [hs] at e2
    exact e2
  have e5 : U.heap[q]? = some c9 := e1
  rw [e5, h9, Array.getElem?_eq_getElem hq]
/-- the words of a throw but the four that speak of the heap -/
def vx_no (w : Cond) : Bool := decide (w ≠ .isRef (.static Bundle.tN "UNASSIGNED_STACK" Bundle.steD)) && decide (w ≠ .isRef (.static Bundle.tN "SUPPRESSED_SENTINEL" Bundle.listD)) && decide (w ≠ .laysStatic Bundle.tN "UNASSIGNED_STACK" Bundle.steD) && decide (w ≠ .laysStatic Bundle.tN "SUPPRESSED_SENTINEL" Bundle.listD)
def vx_at0 (own : String) (ic : Nat) (X : String) (names : List String) : List Cond := (Bundle.ownAtoms0 own ic X names).filter vx_no
def vx_atS (own : String) (ic : Nat) (X : String) (names : List String) : List Cond := (Bundle.ownAtoms own ic X names).filter vx_no
/-- a word that the tables alone decide, or a good one -/
def vx_ot (w : Cond) : Bool := w.onTables || goodWord w
theorem vx_ot_at {args a' : Array Value} {s U : State} {w : Cond} (hW : s.WarmedH U.vm) (hvm : s.vm = U.vm) (hg : vx_ot w = true) (h : w.before args s = true) : w.before a' U = true := by
  simp only [vx_ot, Bool.or_eq_true] at hg
  rcases hg with hg | hg
  · exact va_tabs hg hvm h
  · exact word_at hW (good_of_word hg) h
/-- a list's words: the good ones out of the method's own list, the others by premises of their own -/
theorem vx_hat {args : Array Value} {s : State} {L B : List Cond} (h1 : ∀ w ∈ L.filter goodWord, w.before args s = true) (h2 : ∀ w ∈ L.filter (fun w => !goodWord w), w ∈ B) (h3 : ∀ w ∈ B, w.before args s = true) : ∀ w ∈ L, w.before args s = true := by
  intro w hw
  by_cases g : goodWord w = true
  · exact h1 w (List.mem_filter.mpr ⟨hw, g⟩)
  · refine h3 w (h2 w (List.mem_filter.mpr ⟨hw, ?_⟩))
    show (!goodWord w) = true
    cases hgw : goodWord w
    · rfl
    · exact absurd hgw g
theorem vx_c {args : Array Value} {s : State} {w : Cond} {B : List Cond} (h : w.before args s = true) (t : ∀ w ∈ B, w.before args s = true) : ∀ w' ∈ w :: B, w'.before args s = true := fun w' h' => (List.mem_cons.mp h').elim (fun e => by rw [e]; exact h) (t w')
theorem vx_n {args : Array Value} {s : State} : ∀ w ∈ ([] : List Cond), w.before args s = true := fun _ h => nomatch h
theorem vx_own {args : Array Value} {s : State} {L : List Cond} (h1 : ∀ w ∈ L.filter vx_no, w.before args s = true)
    (hU : (Cond.isRef (.static Bundle.tN "UNASSIGNED_STACK" Bundle.steD)).before args s = true) (hN : (Cond.isRef (.static Bundle.tN "SUPPRESSED_SENTINEL" Bundle.listD)).before args s = true)
    (lU : (Cond.laysStatic Bundle.tN "UNASSIGNED_STACK" Bundle.steD).before args s = true) (lN : (Cond.laysStatic Bundle.tN "SUPPRESSED_SENTINEL" Bundle.listD).before args s = true) : ∀ w ∈ L, w.before args s = true := by
  intro w hw
  by_cases e1 : w = .isRef (.static Bundle.tN "UNASSIGNED_STACK" Bundle.steD)
  · rw [e1]; exact hU
  · by_cases e2 : w = .isRef (.static Bundle.tN "SUPPRESSED_SENTINEL" Bundle.listD)
    · rw [e2]; exact hN
    · by_cases e3 : w = .laysStatic Bundle.tN "UNASSIGNED_STACK" Bundle.steD
      · rw [e3]; exact lU
      · by_cases e4 : w = .laysStatic Bundle.tN "SUPPRESSED_SENTINEL" Bundle.listD
        · rw [e4]; exact lN
        · exact h1 w (List.mem_filter.mpr ⟨hw, by unfold vx_no; rw [decide_eq_true e1, decide_eq_true e2, decide_eq_true e3, decide_eq_true e4]; rfl⟩)
/-- where a static field lies, its class's statics cell in H -/
def vx_L (C n d : String) (A : Nat → Prop) (U : State) (H : Heap) : Prop := ∃ (c : ClassId) (k : Class) (i : Nat) (f : Field) (a : Nat) (cell : Cell), U.vm.findClass C = some c ∧ U.fieldFound? C n d = some (c, k, i, f) ∧ f.isStatic = true ∧ k.statics = some a ∧ H[a]? = some cell ∧ cell.vm.isStatics = true ∧ cell.cls = c ∧ f.slot < cell.slots.size ∧ k.staticTypes[f.slot]? = some f.type ∧ ¬ A a
theorem vx_L.moved {C n d : String} {A : Nat → Prop} {u U : State} {H : Heap} (hvm : u.vm.Alike U.vm) (h : vx_L C n d A u H) : vx_L C n d A U H := by
  obtain ⟨c, k, i, f, a, cell, h1, h2, h3, h4, h5, h6, h7, h8, h9, h10⟩ := h
  obtain ⟨k', hi', he⟩ := State.fieldFound?_setVm hvm h2
  exact ⟨c, k', i, f, a, cell, by rw [hvm.findClass]; exact h1, hi', h3, by rw [he]; exact h4, h5, h6, h7, h8, by rw [he]; exact h9, h10⟩
theorem vx_L.kept {C n d : String} {A : Nat → Prop} {U : State} {H H1 : Heap} (h : vx_L C n d A U H) (hq : ∀ a : Nat, a < H.size → ¬ A a → H1[a]? = H[a]?) : vx_L C n d A U H1 := by
  obtain ⟨c, k, i, f, a, cell, h1, h2, h3, h4, h5, h6, h7, h8, h9, h10⟩ := h
  exact ⟨c, k, i, f, a, cell, h1, h2, h3, h4, by rw [hq a (Array.getElem?_eq_some_iff.mp h5).1 h10]; exact h5, h6, h7, h8, h9, h10⟩
theorem vx_L.narrow {C n d : String} {A B : Nat → Prop} {U : State} {H : Heap} (h : vx_L C n d A U H) (hAB : ∀ q, B q → A q) : vx_L C n d B U H := by
  obtain ⟨c, k, i, f, a, cell, h1, h2, h3, h4, h5, h6, h7, h8, h9, h10⟩ := h
  exact ⟨c, k, i, f, a, cell, h1, h2, h3, h4, h5, h6, h7, h8, h9, fun z => h10 (hAB _ z)⟩
theorem vx_L.word {C n d : String} {A : Nat → Prop} {s : State} {args : Array Value} (h : vx_L C n d A s s.heap) : (Cond.laysStatic C n d).before args s = true := by
  obtain ⟨c, k, i, f, a, cell, h1, h2, h3, h4, h5, h6, h7, h8, h9, -⟩ := h
  show (Cond.laysStatic C n d).holds args s none s [] = true
  exact Cond.laysStatic_of h1 h2 h3 h4 h5 h6 h7 h8 h9
/-- .. and what it holds: null or some reference -/
def vx_Zq (C n d : String) (A : Nat → Prop) (U : State) (H : Heap) : Prop := va_Zq C n d A U H ∧ vx_L C n d A U H
theorem vx_Zq.moved {C n d : String} {A : Nat → Prop} {u U : State} {H : Heap} (hvm : u.vm.Alike U.vm) (h : vx_Zq C n d A u H) : vx_Zq C n d A U H := ⟨va_Zq.moved hvm h.1, vx_L.moved hvm h.2⟩
theorem vx_Zq.kept {C n d : String} {A : Nat → Prop} {U : State} {H H1 : Heap} (h : vx_Zq C n d A U H) (hq : ∀ a : Nat, a < H.size → ¬ A a → H1[a]? = H[a]?) : vx_Zq C n d A U H1 := ⟨va_Zq.kept h.1 hq, vx_L.kept h.2 hq⟩
theorem vx_Zq.narrow {C n d : String} {A B : Nat → Prop} {U : State} {H : Heap} (h : vx_Zq C n d A U H) (hAB : ∀ q, B q → A q) : vx_Zq C n d B U H := ⟨va_Zq.narrow h.1 hAB, vx_L.narrow h.2 hAB⟩
theorem vx_Zqof {args : Array Value} {s : State} {C n d : String} {A : Nat → Prop} (hl : (Cond.laysStatic C n d).before args s = true) (hini : (Cond.initialized C).before args s = true) (h : (Cond.isRef (.static C n d)).before args s = true) (hA : ∀ a : Nat, a < s.heap.size → ¬ A a) : vx_Zq C n d A s s.heap := by
  refine ⟨va_Zqof hl hini h hA, ?_⟩
  obtain ⟨c, k, i, f, a, cell, h1, h2, h3, h4, h5, h6, h7, h8, h9⟩ := Cond.laysStatic_spec hl
  exact ⟨c, k, i, f, a, cell, h1, h2, h3, h4, h5, h6, h7, h8, h9, hA a (Array.getElem?_eq_some_iff.mp h5).1⟩
theorem vx_isRef {C n d : String} {v : Value} {A : Nat → Prop} {s : State} {args : Array Value} (h : va_Z C n d v A s s.heap) (hv : v.isRef = true) : (Cond.isRef (.static C n d)).before args s = true := by
  obtain ⟨cf, kf, fi, f, a, cell, h1, h2, h3, h4, h5, h6, h7, -⟩ := h
  have he : (Term.static C n d).eval args s none [] s = some v := by
    simp [Term.eval, State.fieldNamed?, h1, h2, h4, h5, h6, h7]
  simp only [Cond.before, Cond.holds, Cond.value, he]
  cases v <;> simp_all [Value.isRef]
theorem vx_isRefq {C n d : String} {A : Nat → Prop} {s : State} {args : Array Value} (h : va_Zq C n d A s s.heap) : (Cond.isRef (.static C n d)).before args s = true := by
  rcases h with h | ⟨t, h⟩
  · exact vx_isRef h rfl
  · exact vx_isRef h rfl
/-- the same frame, seen from here: as if the method were called anew in this heap -/
theorem vx_rebase {T : State} (X : Stand p l e R s m args below meth c T locs cells slots) {R' : Room} (hf : R'.frames ≤ R.frames) (hl : R'.locals ≤ R.locals) (hc : cells + R'.cells ≤ R.cells) (hs : slots + R'.slots ≤ R.slots) :
    Stand p l e R' ((T.setVm s.vm).setFrames (.invoking m args :: below)) m args below meth c T [] 0 0 := by
  have htop : (T.setVm s.vm).topJava?.isSome := X.here.top
  have hF : ((T.setVm s.vm).setFrames (.invoking m args :: below)).frames = .invoking m args :: below := State.frames_setFrames _ (State.cur_lt_of_top htop)
  obtain ⟨g₀, hg0⟩ := Option.isSome_iff_exists.mp htop
  obtain ⟨r, hr⟩ := State.topJava?_eq_some.mp hg0
  have hl9 : e.platform.stackLimits (T.setVm s.vm).me = e.platform.stackLimits s.me := X.limits
  have hb9 : (T.setVm s.vm).me.stackBytes = s.me.stackBytes := X.bytes
  refine ⟨X.admits, X.cas, X.clock, hF, ?_, X.hears, X.method, X.code, X.here, X.tail, X.warmed, ?_, ?_, ?_⟩
  · have h := X.room
    have hU : ((T.setVm s.vm).setFrames (.invoking m args :: below)).localsInUse = s.localsInUse := by
      rw [State.localsInUse_invoking hF (meth := meth) (c := c) X.method X.code, State.localsInUse_invoking X.frames X.method X.code]
    simp only [State.hasRoom, Bool.and_eq_true, decide_eq_true_eq] at h ⊢
    obtain ⟨⟨⟨⟨h1, h2, h3, h4, h5, h6⟩, h7⟩, h8⟩, h9⟩ := h
    rw [X.frames, List.length_cons] at h2 h3
    have q1 := X.heapSize
    have q2 := X.used
    simp only [hF, hU, List.length_cons, State.stackLimits_setFrames, State.stackBytes_setFrames, hl9, hb9]
    refine ⟨⟨⟨⟨by omega, by omega, by omega, by omega, by omega, h6⟩, ?_⟩, ?_⟩, X.book⟩
    · show T.heap.size + R'.cells ≤ e.platform.maxCells
      omega
    · show T.slotsUsed + R'.slots ≤ e.platform.maxSlots
      omega
  · rw [State.stackLimits_setFrames]; rfl
  · rw [State.stackBytes_setFrames]; rfl
  · refine ⟨?_, Nat.le_refl _, Nat.le_refl _, ?_, ?_, fun a c9 h9 => ⟨c9, h9, rfl, rfl, fun _ _ => rfl⟩⟩
    · obtain ⟨t, ht, -⟩ := State.frames_cons hr
      show T.setVm s.vm = { ((T.setVm s.vm).setFrames (.invoking m args :: below)).setFrames (T.setVm s.vm).frames with heap := T.heap, slotsUsed := T.slotsUsed }
      rw [State.setFrames_setFrames, State.setFrames_self ht]
      rfl
    · show T.slotsUsed = T.slotsUsed + ((T.heap.toList.drop T.heap.size).map (·.slots.size)).sum
      rw [List.drop_eq_nil_of_le (Nat.le_of_eq Array.length_toList)]
      rfl
    · show ((T.heap.toList.drop T.heap.size).map (·.slots.size)).sum ≤ 0
      rw [List.drop_eq_nil_of_le (Nat.le_of_eq Array.length_toList)]
      exact Nat.le_refl _
/-- 'throw new E()': new; dup; invokespecial; athrow -/
theorem vx_throw0 {cc : ByteArray} {pc : Nat} (hexec : p.tables.exec = Jvm.exec) (hb : c.code = cc) (hl : l.stackTraces = false) {own cls : String} {names : List String} {ik ic mc ms : Nat} {A : Nat → Prop}
    (hown : s.vm.findClass own = some m.cls) (hcls : Bundle.fit cls = true) (hnames : ∀ n ∈ names, Bundle.fit n = true)
    (hk : (Cond.classLink own ik cls).before args s = true) (hini : (Cond.initialized cls).before args s = true) (hat : ∀ w ∈ vx_at0 own ic cls names, w.before args s = true)
    (hgood : ∀ w ∈ Cond.classLink own ik cls :: Cond.initialized cls :: vx_at0 own ic cls names, vx_ot w = true)
    (hU : vx_Zq Bundle.tN "UNASSIGNED_STACK" Bundle.steD A s s.heap) (hN : vx_Zq Bundle.tN "SUPPRESSED_SENTINEL" Bundle.listD A s s.heap) (hS : va_S A s.heap H locs) (hsize : ls.size = c.maxLocals)
    (d0 : decode cc pc = .ok (.new ik, 3)) (d3 : decode cc (pc + 3) = .ok (.dup, 1)) (d4 : decode cc (pc + 4) = .ok (.invokespecial ic, 3)) (d7 : decode cc (pc + 7) = .ok (.athrow, 1))
    (hout : ∀ x ∈ c.exceptionTable.toList, covers x (pc + 7) = false)
    (hRframes : names.length + 3 < R.frames) (hRlocals : (rest.map fun v => v.category).sum + (13 * (names.length + 1) + 42) ≤ R.locals) (hRcells : cells + 1 ≤ R.cells) (hRslots : slots + 6 ≤ R.slots) (hlocks : meth.locks = false)
    (hx : ∀ t : State, s.vm.Alike t.vm → H.size ≤ t.heap.size → (∀ q : Nat, q < H.size → t.heap[q]? = H[q]?) → XC cls s t)
    (hf : ∀ z ∈ locs, free z.base) (hc : cells + 1 ≤ mc) (hs : slots + 6 ≤ ms) :
    W p l e R s m args below meth c H locs cells slots (vx_MQ below Qc XC args s mc ms free) (F0 m pc ls rest) := by
  intro T hT X
  have htr : e.platform.stackTraces = false := (show e.platform.stackTraces = l.stackTraces by rw [X.admits.platform]).trans hl
  have Y := vx_rebase X (R' := { frames := R.frames, locals := R.locals, cells := 1, slots := 6 }) (Nat.le_refl _) (Nat.le_refl _) hRcells hRslots
  obtain ⟨s', hA⟩ : ∃ z, z = (T.setVm s.vm).setFrames (.invoking m args :: below) := ⟨_, rfl⟩
  rw [← hA] at Y
  have hvm : s'.vm = s.vm := by rw [hA]; rfl
  have hhp : s'.heap = H := by rw [hA]; exact hT
  have hW0 : s.WarmedH s'.vm := by rw [hvm]; exact State.WarmedH.refl s
  have hat' : ∀ w ∈ vx_at0 own ic cls names, w.before args s' = true := fun w hw => vx_ot_at hW0 hvm.symm (hgood w (List.mem_cons_of_mem _ (List.mem_cons_of_mem _ hw))) (hat w hw)
  have hk' : (Cond.classLink own ik cls).before args s' = true := vx_ot_at hW0 hvm.symm (hgood _ List.mem_cons_self) hk
  have hini' : (Cond.initialized cls).before args s' = true := vx_ot_at hW0 hvm.symm (hgood _ (List.mem_cons_of_mem _ List.mem_cons_self)) hini
  have hU' : vx_Zq Bundle.tN "UNASSIGNED_STACK" Bundle.steD A s' s'.heap := by rw [hhp]; exact vx_Zq.moved hW0.alike (hU.kept hS.2.1)
  have hN' : vx_Zq Bundle.tN "SUPPRESSED_SENTINEL" Bundle.listD A s' s'.heap := by rw [hhp]; exact vx_Zq.moved hW0.alike (hN.kept hS.2.1)
  have h : ∀ w ∈ Bundle.ownAtoms0 own ic cls names, w.before args s' = true := vx_own hat' (vx_isRefq hU'.1) (vx_isRefq hN'.1) hU'.2.word hN'.2.word
  have hown' : s'.vm.findClass own = some m.cls := by rw [hvm]; exact hown
  have hins : (Cond.instantiable cls 6).before args s' = true := h _ (by simp [Bundle.ownAtoms0])
  obtain ⟨vm₁, cX, kX, hfX, hkX, -, -, X₁, st1⟩ := Y.newCold hexec (own := own) (C := cls) (index := ik) (n := 6) hown' hk' hins hini'
    (g := F0 m pc ls rest) rfl (by rw [hb]; exact d0) (Nat.le_refl _) (Nat.le_refl _)
  generalize hT1 : (T.setVm vm₁).pushCell { cls := cX, slots := kX.instanceTypes.map defaultValue, vm := .none } = T1 at X₁ st1
  have hcat : (Value.ref T.heap.size).category = 1 := rfl
  have hcellA : T1.heap[T.heap.size]? = some (freshCell cX kX) := by rw [← hT1]; exact State.heap_pushCell_size _ _
  have d3' : decode c.code (pc + 3) = .ok (.dup, 1) := by rw [hb]; exact d3
  obtain ⟨U, hsteps, hrun, hend, hW, hsame, ce, hce, hO⟩ := X₁.ctorThrow0 hexec htr (own := own) (cls := cls) (names := names) (ic := ic) hown' hcls hnames h (fun x hx => nomatch hx) hfX hkX hcellA (by rw [hhp, hT]; exact Nat.le_refl _)
    (g := { method := m, pc := pc + 4, locals := ls, stack := .ref T.heap.size :: .ref T.heap.size :: rest, locked := none }) rfl hsize rfl rfl (rest := rest) rfl
    (by rw [hb]; exact d4) (by rw [hb]; exact d7) hout hRframes (by simp only [List.map_cons, List.sum_cons, hcat]; omega) hlocks
  obtain ⟨f1, f2⟩ := vx_frame hsame
  rw [hhp] at f1 f2
  have hWs : s.WarmedH U.vm := State.WarmedH.trans hW0 hW
  have hcl : s.vm.findClass cls = some ce.cls := by
    have h9 := hO.cls
    rw [hvm] at h9
    exact h9
  have hall : s.sameButNew ({ U with vm := s.vm } : State) locs mc ms := by
    subst hA
    obtain ⟨e1, e2⟩ := hsame
    rw [State.setFrames_setFrames] at e1
    have h2 : (T.setVm s.vm).sameButNew ({ U with vm := s.vm } : State) [] (0 + 1) (0 + 6) := ⟨e1, e2⟩
    have h3 := X.same.trans h2
    rw [List.append_nil] at h3
    exact h3.mono hc hs
  refine ⟨U, ?_, .threw T.heap.size, hrun, hend, Or.inr ⟨T.heap.size, rfl, cls, ce, locs, hx U hWs.alike f1 (fun q hq => f2 q hq (fun z hz => nomatch hz)), hce, hO.vm, hcl, hWs, hall, hf⟩⟩
  refine st1 _ ?_
  show Steps p.tables e below (T1.setTop { method := m, pc := pc + 3, locals := ls, stack := .ref T.heap.size :: rest, locked := none }) _
  jvm_step X₁.here [X₁.here.top, hexec, d3', Value.category]
  exact hsteps
/-- 'throw new E("text")': new; dup; ldc; invokespecial; athrow -/
theorem vx_throwS {cc : ByteArray} {pc : Nat} (hexec : p.tables.exec = Jvm.exec) (hb : c.code = cc) (hl : l.stackTraces = false) {own cls text : String} {names : List String} {ik is ic mc ms sa : Nat} {A : Nat → Prop}
    (hown : s.vm.findClass own = some m.cls) (hcls : Bundle.fit cls = true) (hnames : ∀ n ∈ names, Bundle.fit n = true)
    (hk : (Cond.classLink own ik cls).before args s = true) (hini : (Cond.initialized cls).before args s = true) (hstr : vk_R own is text sa s) (hat : ∀ w ∈ vx_atS own ic cls names, w.before args s = true)
    (hgood : ∀ w ∈ Cond.classLink own ik cls :: Cond.initialized cls :: vx_atS own ic cls names, vx_ot w = true)
    (hU : vx_Zq Bundle.tN "UNASSIGNED_STACK" Bundle.steD A s s.heap) (hN : vx_Zq Bundle.tN "SUPPRESSED_SENTINEL" Bundle.listD A s s.heap) (hS : va_S A s.heap H locs) (hsize : ls.size = c.maxLocals)
    (d0 : decode cc pc = .ok (.new ik, 3)) (d3 : decode cc (pc + 3) = .ok (.dup, 1)) (d4 : decode cc (pc + 4) = .ok (.ldc is, 2)) (d6 : decode cc (pc + 6) = .ok (.invokespecial ic, 3)) (d9 : decode cc (pc + 9) = .ok (.athrow, 1))
    (hout : ∀ x ∈ c.exceptionTable.toList, covers x (pc + 9) = false)
    (hRframes : names.length + 3 < R.frames) (hRlocals : (rest.map fun v => v.category).sum + (13 * (names.length + 1) + 43) ≤ R.locals) (hRcells : cells + 1 ≤ R.cells) (hRslots : slots + 6 ≤ R.slots) (hlocks : meth.locks = false)
    (hx : ∀ t : State, s.vm.Alike t.vm → H.size ≤ t.heap.size → (∀ q : Nat, q < H.size → t.heap[q]? = H[q]?) → XC cls s t)
    (hf : ∀ z ∈ locs, free z.base) (hc : cells + 1 ≤ mc) (hs : slots + 6 ≤ ms) :
    W p l e R s m args below meth c H locs cells slots (vx_MQ below Qc XC args s mc ms free) (F0 m pc ls rest) := by
  intro T hT X
  have htr : e.platform.stackTraces = false := (show e.platform.stackTraces = l.stackTraces by rw [X.admits.platform]).trans hl
  have Y := vx_rebase X (R' := { frames := R.frames, locals := R.locals, cells := 1, slots := 6 }) (Nat.le_refl _) (Nat.le_refl _) hRcells hRslots
  obtain ⟨s', hA⟩ : ∃ z, z = (T.setVm s.vm).setFrames (.invoking m args :: below) := ⟨_, rfl⟩
  rw [← hA] at Y
  have hvm : s'.vm = s.vm := by rw [hA]; rfl
  have hhp : s'.heap = H := by rw [hA]; exact hT
  have hW0 : s.WarmedH s'.vm := by rw [hvm]; exact State.WarmedH.refl s
  have hat' : ∀ w ∈ vx_atS own ic cls names, w.before args s' = true := fun w hw => vx_ot_at hW0 hvm.symm (hgood w (List.mem_cons_of_mem _ (List.mem_cons_of_mem _ hw))) (hat w hw)
  have hk' : (Cond.classLink own ik cls).before args s' = true := vx_ot_at hW0 hvm.symm (hgood _ List.mem_cons_self) hk
  have hini' : (Cond.initialized cls).before args s' = true := vx_ot_at hW0 hvm.symm (hgood _ (List.mem_cons_of_mem _ List.mem_cons_self)) hini
  have hU' : vx_Zq Bundle.tN "UNASSIGNED_STACK" Bundle.steD A s' s'.heap := by rw [hhp]; exact vx_Zq.moved hW0.alike (hU.kept hS.2.1)
  have hN' : vx_Zq Bundle.tN "SUPPRESSED_SENTINEL" Bundle.listD A s' s'.heap := by rw [hhp]; exact vx_Zq.moved hW0.alike (hN.kept hS.2.1)
  have h : ∀ w ∈ Bundle.ownAtoms own ic cls names, w.before args s' = true := vx_own hat' (vx_isRefq hU'.1) (vx_isRefq hN'.1) hU'.2.word hN'.2.word
  have hown' : s'.vm.findClass own = some m.cls := by rw [hvm]; exact hown
  have hins : (Cond.instantiable cls 6).before args s' = true := h _ (by simp [Bundle.ownAtoms])
  obtain ⟨vm₁, cX, kX, hfX, hkX, -, -, X₁, st1⟩ := Y.newCold hexec (own := own) (C := cls) (index := ik) (n := 6) hown' hk' hins hini'
    (g := F0 m pc ls rest) rfl (by rw [hb]; exact d0) (Nat.le_refl _) (Nat.le_refl _)
  generalize hT1 : (T.setVm vm₁).pushCell { cls := cX, slots := kX.instanceTypes.map defaultValue, vm := .none } = T1 at X₁ st1
  have hcat : (Value.ref T.heap.size).category = 1 := rfl
  have hcellA : T1.heap[T.heap.size]? = some (freshCell cX kX) := by rw [← hT1]; exact State.heap_pushCell_size _ _
  have d3' : decode c.code (pc + 3) = .ok (.dup, 1) := by rw [hb]; exact d3
  have d4' : decode c.code (pc + 4) = .ok (.ldc is, 2) := by rw [hb]; exact d4
  have hstr' : vk_R own is text sa s' := vk_R.warm hW0 hstr
  obtain ⟨U, hsteps, hrun, hend, hW, hsame, ce, hce, hO⟩ := X₁.ctorThrowS hexec htr (own := own) (cls := cls) (names := names) (ic := ic) hown' hcls hnames h (fun x hx => nomatch hx) hfX hkX hcellA (by rw [hhp, hT]; exact Nat.le_refl _) (msg := .ref sa) rfl
    (g := { method := m, pc := pc + 6, locals := ls, stack := .ref sa :: .ref T.heap.size :: .ref T.heap.size :: rest, locked := none }) rfl hsize rfl rfl (rest := rest) rfl
    (by rw [hb]; exact d6) (by rw [hb]; exact d9) hout hRframes (by simp only [List.map_cons, List.sum_cons, hcat]; omega) hlocks
  obtain ⟨f1, f2⟩ := vx_frame hsame
  rw [hhp] at f1 f2
  have hWs : s.WarmedH U.vm := State.WarmedH.trans hW0 hW
  have hcl : s.vm.findClass cls = some ce.cls := by
    have h9 := hO.cls
    rw [hvm] at h9
    exact h9
  have hall : s.sameButNew ({ U with vm := s.vm } : State) locs mc ms := by
    subst hA
    obtain ⟨e1, e2⟩ := hsame
    rw [State.setFrames_setFrames] at e1
    have h2 : (T.setVm s.vm).sameButNew ({ U with vm := s.vm } : State) [] (0 + 1) (0 + 6) := ⟨e1, e2⟩
    have h3 := X.same.trans h2
    rw [List.append_nil] at h3
    exact h3.mono hc hs
  refine ⟨U, ?_, .threw T.heap.size, hrun, hend, Or.inr ⟨T.heap.size, rfl, cls, ce, locs, hx U hWs.alike f1 (fun q hq => f2 q hq (fun z hz => nomatch hz)), hce, hO.vm, hcl, hWs, hall, hf⟩⟩
  refine st1 _ ?_
  show Steps p.tables e below (T1.setTop { method := m, pc := pc + 3, locals := ls, stack := .ref T.heap.size :: rest, locked := none }) _
  jvm_step X₁.here [X₁.here.top, hexec, d3', Value.category]
  exact X₁.ldcString hexec (own := own) (text := text) (index := is) (a := sa) hown' hstr'.1 hstr'.2
    (g := { method := m, pc := pc + 4, locals := ls, stack := .ref T.heap.size :: .ref T.heap.size :: rest, locked := none }) rfl d4' _ hsteps
/-- 'throw new E("text")', the text by a wide index -/
theorem vx_throwSW {cc : ByteArray} {pc : Nat} (hexec : p.tables.exec = Jvm.exec) (hb : c.code = cc) (hl : l.stackTraces = false) {own cls text : String} {names : List String} {ik is ic mc ms sa : Nat} {A : Nat → Prop}
    (hown : s.vm.findClass own = some m.cls) (hcls : Bundle.fit cls = true) (hnames : ∀ n ∈ names, Bundle.fit n = true)
    (hk : (Cond.classLink own ik cls).before args s = true) (hini : (Cond.initialized cls).before args s = true) (hstr : vk_R own is text sa s) (hat : ∀ w ∈ vx_atS own ic cls names, w.before args s = true)
    (hgood : ∀ w ∈ Cond.classLink own ik cls :: Cond.initialized cls :: vx_atS own ic cls names, vx_ot w = true)
    (hU : vx_Zq Bundle.tN "UNASSIGNED_STACK" Bundle.steD A s s.heap) (hN : vx_Zq Bundle.tN "SUPPRESSED_SENTINEL" Bundle.listD A s s.heap) (hS : va_S A s.heap H locs) (hsize : ls.size = c.maxLocals)
    (d0 : decode cc pc = .ok (.new ik, 3)) (d3 : decode cc (pc + 3) = .ok (.dup, 1)) (d4 : decode cc (pc + 4) = .ok (.ldc_w is, 3)) (d7 : decode cc (pc + 7) = .ok (.invokespecial ic, 3)) (d10 : decode cc (pc + 10) = .ok (.athrow, 1))
    (hout : ∀ x ∈ c.exceptionTable.toList, covers x (pc + 10) = false)
    (hRframes : names.length + 3 < R.frames) (hRlocals : (rest.map fun v => v.category).sum + (13 * (names.length + 1) + 43) ≤ R.locals) (hRcells : cells + 1 ≤ R.cells) (hRslots : slots + 6 ≤ R.slots) (hlocks : meth.locks = false)
    (hx : ∀ t : State, s.vm.Alike t.vm → H.size ≤ t.heap.size → (∀ q : Nat, q < H.size → t.heap[q]? = H[q]?) → XC cls s t)
    (hf : ∀ z ∈ locs, free z.base) (hc : cells + 1 ≤ mc) (hs : slots + 6 ≤ ms) :
    W p l e R s m args below meth c H locs cells slots (vx_MQ below Qc XC args s mc ms free) (F0 m pc ls rest) := by
  intro T hT X
  have htr : e.platform.stackTraces = false := (show e.platform.stackTraces = l.stackTraces by rw [X.admits.platform]).trans hl
  have Y := vx_rebase X (R' := { frames := R.frames, locals := R.locals, cells := 1, slots := 6 }) (Nat.le_refl _) (Nat.le_refl _) hRcells hRslots
  obtain ⟨s', hA⟩ : ∃ z, z = (T.setVm s.vm).setFrames (.invoking m args :: below) := ⟨_, rfl⟩
  rw [← hA] at Y
  have hvm : s'.vm = s.vm := by rw [hA]; rfl
  have hhp : s'.heap = H := by rw [hA]; exact hT
  have hW0 : s.WarmedH s'.vm := by rw [hvm]; exact State.WarmedH.refl s
  have hat' : ∀ w ∈ vx_atS own ic cls names, w.before args s' = true := fun w hw => vx_ot_at hW0 hvm.symm (hgood w (List.mem_cons_of_mem _ (List.mem_cons_of_mem _ hw))) (hat w hw)
  have hk' : (Cond.classLink own ik cls).before args s' = true := vx_ot_at hW0 hvm.symm (hgood _ List.mem_cons_self) hk
  have hini' : (Cond.initialized cls).before args s' = true := vx_ot_at hW0 hvm.symm (hgood _ (List.mem_cons_of_mem _ List.mem_cons_self)) hini
  have hU' : vx_Zq Bundle.tN "UNASSIGNED_STACK" Bundle.steD A s' s'.heap := by rw [hhp]; exact vx_Zq.moved hW0.alike (hU.kept hS.2.1)
  have hN' : vx_Zq Bundle.tN "SUPPRESSED_SENTINEL" Bundle.listD A s' s'.heap := by rw [hhp]; exact vx_Zq.moved hW0.alike (hN.kept hS.2.1)
  have h : ∀ w ∈ Bundle.ownAtoms own ic cls names, w.before args s' = true := vx_own hat' (vx_isRefq hU'.1) (vx_isRefq hN'.1) hU'.2.word hN'.2.word
  have hown' : s'.vm.findClass own = some m.cls := by rw [hvm]; exact hown
  have hins : (Cond.instantiable cls 6).before args s' = true := h _ (by simp [Bundle.ownAtoms])
  obtain ⟨vm₁, cX, kX, hfX, hkX, -, -, X₁, st1⟩ := Y.newCold hexec (own := own) (C := cls) (index := ik) (n := 6) hown' hk' hins hini'
    (g := F0 m pc ls rest) rfl (by rw [hb]; exact d0) (Nat.le_refl _) (Nat.le_refl _)
  generalize hT1 : (T.setVm vm₁).pushCell { cls := cX, slots := kX.instanceTypes.map defaultValue, vm := .none } = T1 at X₁ st1
  have hcat : (Value.ref T.heap.size).category = 1 := rfl
  have hcellA : T1.heap[T.heap.size]? = some (freshCell cX kX) := by rw [← hT1]; exact State.heap_pushCell_size _ _
  have d3' : decode c.code (pc + 3) = .ok (.dup, 1) := by rw [hb]; exact d3
  have d4' : decode c.code (pc + 4) = .ok (.ldc_w is, 3) := by rw [hb]; exact d4
  have hstr' : vk_R own is text sa s' := vk_R.warm hW0 hstr
  obtain ⟨U, hsteps, hrun, hend, hW, hsame, ce, hce, hO⟩ := X₁.ctorThrowS hexec htr (own := own) (cls := cls) (names := names) (ic := ic) hown' hcls hnames h (fun x hx => nomatch hx) hfX hkX hcellA (by rw [hhp, hT]; exact Nat.le_refl _) (msg := .ref sa) rfl
    (g := { method := m, pc := pc + 7, locals := ls, stack := .ref sa :: .ref T.heap.size :: .ref T.heap.size :: rest, locked := none }) rfl hsize rfl rfl (rest := rest) rfl
    (by rw [hb]; exact d7) (by rw [hb]; exact d10) hout hRframes (by simp only [List.map_cons, List.sum_cons, hcat]; omega) hlocks
  obtain ⟨f1, f2⟩ := vx_frame hsame
  rw [hhp] at f1 f2
  have hWs : s.WarmedH U.vm := State.WarmedH.trans hW0 hW
  have hcl : s.vm.findClass cls = some ce.cls := by
    have h9 := hO.cls
    rw [hvm] at h9
    exact h9
  have hall : s.sameButNew ({ U with vm := s.vm } : State) locs mc ms := by
    subst hA
    obtain ⟨e1, e2⟩ := hsame
    rw [State.setFrames_setFrames] at e1
    have h2 : (T.setVm s.vm).sameButNew ({ U with vm := s.vm } : State) [] (0 + 1) (0 + 6) := ⟨e1, e2⟩
    have h3 := X.same.trans h2
    rw [List.append_nil] at h3
    exact h3.mono hc hs
  refine ⟨U, ?_, .threw T.heap.size, hrun, hend, Or.inr ⟨T.heap.size, rfl, cls, ce, locs, hx U hWs.alike f1 (fun q hq => f2 q hq (fun z hz => nomatch hz)), hce, hO.vm, hcl, hWs, hall, hf⟩⟩
  refine st1 _ ?_
  show Steps p.tables e below (T1.setTop { method := m, pc := pc + 3, locals := ls, stack := .ref T.heap.size :: rest, locked := none }) _
  jvm_step X₁.here [X₁.here.top, hexec, d3', Value.category]
  exact X₁.ldcStringW hexec (own := own) (text := text) (index := is) (a := sa) hown' hstr'.1 hstr'.2
    (g := { method := m, pc := pc + 4, locals := ls, stack := .ref T.heap.size :: .ref T.heap.size :: rest, locked := none }) rfl d4' _ hsteps
end Ends
section Bodies
variable {l : Launch}
theorem vx_ofW {y : MethodName} {ws ws' : List Cond} {rm : Room} {Pc : Array Value → State → Prop} {Qc : Array Value → State → Outcome → State → Prop} {XC : String → State → State → Prop} {mc ms : Nat} {free : Addr → Prop} {cc : ByteArray} {maxL : Nat} {ret : Option FieldType}
    (hy : plainName y.cls = true) (hw : ws = Cond.code y cc maxL ret :: ws')
    (body : ∀ p e s m args below meth c s₁, BodyLoose p l y (headSpec ws rm) cc maxL ret e s m args below meth c s₁ → c.maxLocals = maxL → (∀ x ∈ c.exceptionTable.toList, False) → Pc args s →
      W p l e (headSpec ws rm).room s m args below meth c s.heap [] 0 0 (vx_MQ below Qc XC args s mc ms free) (entryFrame m args maxL)) : vx_Met l y ws rm Pc Qc XC mc ms free := by
  refine MetFree.of_bodyS (code := cc) (maxLocals := maxL) (ret := ret) hy ?_ ?_
  · intro args s m h hn
    obtain ⟨meth, c, h1, h2, h3, h4, h5, h6, -, -⟩ := Cond.code_spec hn (atoms_spec (ws := ws) h _ (by rw [hw]; exact List.mem_cons_self))
    exact ⟨meth, c, h1, h2, h3, h4, h5, h6⟩
  · intro p e s m args below meth c s₁ B hml hP _
    have hh0 : s₁.heap = s.heap := by rw [B.state]; rfl
    have ht : ∀ x ∈ c.exceptionTable.toList, False := by
      obtain ⟨meth9, c9, h1, h2, -, -, -, -, h7, -⟩ := Cond.code_spec B.named (atoms_spec (ws := ws) B.pre _ (by rw [hw]; exact List.mem_cons_self))
      cases Option.some.inj (h1.symm.trans B.method)
      cases Option.some.inj (h2.symm.trans (Stand.of_body B).code)
      intro x hx
      rw [Array.isEmpty_iff.mp h7] at hx
      cases hx
    obtain ⟨t, a1, o, b1, b2, b3⟩ := body p e s m args below meth c s₁ B hml ht hP s₁ hh0 (Stand.of_body B)
    exact ⟨t, o, a1, b1, b2, b3⟩
/-- the table of a body with handlers -/
theorem vx_table {p : Program} {x y : MethodName} {S : Spec} {cc bytes : ByteArray} {maxL maxL' : Nat} {ret ret' : Option FieldType} {e : Env} {s s₁ : State} {m : MethodId} {args : Array Value} {below : List Frame} {meth : Method} {c : Code} {hh : List (Nat × Nat × Nat × Nat)}
    (B : BodyLoose p l y S cc maxL ret e s m args below meth c s₁) (h : (Cond.codeWith y bytes maxL' ret' hh).before args s = true) : c.exceptionTable.toList = tableOf hh := by
  obtain ⟨m9, meth9, c9, hn9, h1, h2, -, -, h6, -⟩ := Cond.codeWith_spec h
  cases Option.some.inj (hn9.symm.trans B.named)
  cases Option.some.inj (h1.symm.trans B.method)
  cases Option.some.inj (h2.symm.trans (Stand.of_body B).code)
  rw [← h6, table_eq]
end Bodies
end VXA
/-! ===== END ===== -/
/-! ===== BEGIN a static call of a method with an exception table ===== -/
section VXS
variable {p : Program} {l : Launch} {e : Env} {R : Room} {s : State} {m : MethodId} {args : Array Value} {below : List Frame} {meth : Method} {c : Code} {T : State} {H : Heap} {locs : List Loc} {cells slots : Nat}
abbrev vx_CSW (R : Room) (s : State) (args : Array Value) (own : String) (index : Nat) (y : MethodName) (bytes : ByteArray) (maxL : Nat) (ret : Option FieldType) (hh : List (Nat × Nat × Nat × Nat)) (ws : List Cond) (rm : Room) (mc ms n : Nat) : Prop :=
  (rm.cells = mc ∧ rm.slots = ms ∧ rm.frames + 1 ≤ R.frames ∧ 8 + (maxL + 11) + rm.locals ≤ R.locals ∧ (∀ w ∈ ws, ∀ (a' : Array Value) (U : State), s.WarmedH U.vm → w.before a' U = true) ∧ Cond.codeWith y bytes maxL ret hh ∈ ws) ∧
  (Cond.codeWith y bytes maxL ret hh).before args s = true ∧ (Cond.initialized y.cls).before args s = true ∧ (y.cls ≠ "java/lang/invoke/MethodHandle" ∧ y.cls ≠ "java/lang/invoke/VarHandle") ∧
  (∀ sig, parseMethodDescriptor y.desc = some sig → n = sig.parameters.length) ∧ (Cond.methodLink own index y).before args s = true ∧ (Cond.static y).before args s = true
theorem vx_cwSW {own : String} {index maxL mc ms : Nat} {y : MethodName} {bytes : ByteArray} {ret : Option FieldType} {hh : List (Nat × Nat × Nat × Nat)} {Ts ws ws' : List Cond} {rm : Room} (n : Nat) (ht : ∀ w ∈ Ts, w.before args s = true) (hT : GoodIn Ts (va_wsS own index y ws)) (hw : ws = Cond.codeWith y bytes maxL ret hh :: ws') (hrc : rm.cells = mc) (hrs : rm.slots = ms)
    (hd : y.cls ≠ "java/lang/invoke/MethodHandle" ∧ y.cls ≠ "java/lang/invoke/VarHandle" ∧ (parseMethodDescriptor y.desc).map (fun d => d.parameters.length) = some n) (hR : rm.frames + 1 ≤ R.frames ∧ 8 + (maxL + 11) + rm.locals ≤ R.locals) :
    vx_CSW R s args own index y bytes maxL ret hh ws rm mc ms n := by
  have ok : ∀ w ∈ va_wsS own index y ws, w.before args s = true := fun w h => ht w (hT w h).1
  have hG : GoodIn Ts ws := fun w h => hT w (by unfold va_wsS; exact List.mem_append_right _ h)
  have hc : Cond.codeWith y bytes maxL ret hh ∈ ws := by rw [hw]; exact List.mem_cons_self
  refine ⟨⟨hrc, hrs, hR.1, hR.2, pay_in ht hG, hc⟩, ht _ (hG _ hc).1, ok _ (by simp [va_wsS]), ⟨hd.1, hd.2.1⟩, fun sig h => ?_, ok _ (by simp [va_wsS]), ok _ (by simp [va_wsS])⟩
  have h2 := hd.2.2
  rw [h] at h2
  exact (Option.some.inj h2).symm
theorem vx_callSW (X : Stand p l e R s m args below meth c T locs cells slots) (hexec : p.tables.exec = Jvm.exec) {own : String} {index : Nat} {y : MethodName} {bytes : ByteArray} {maxL : Nat} {ret : Option FieldType} {hh : List (Nat × Nat × Nat × Nat)}
    (hown : s.vm.findClass own = some m.cls) (hlink : (Cond.methodLink own index y).before args s = true) (hstat : (Cond.static y).before args s = true) (hinit : (Cond.initialized y.cls).before args s = true)
    (hcode : (Cond.codeWith y bytes maxL ret hh).before args s = true) (hy : y.cls ≠ "java/lang/invoke/MethodHandle" ∧ y.cls ≠ "java/lang/invoke/VarHandle")
    {W9 : Nat} {Pre : Pt → Array Value → Prop} {Post : Pt → Array Value → Option Value → Pt → Prop} (hK : Back l R p e below s args y 3 W9 Pre Post)
    {g : JFrame} (hg : g.method = m) (hsize : g.locals.size = c.maxLocals) {argsL rest : List Value} (hlen : ∀ sig, parseMethodDescriptor y.desc = some sig → argsL.length = sig.parameters.length)
    (hstack : g.stack = argsL.reverse ++ rest) (hW : 2 * g.monitorRoom + (rest.map fun v => v.category).sum ≤ W9) (hdg : decode c.code g.pc = .ok (.invokestatic index, 3))
    (hpre : ∀ vm₁, s.WarmedH vm₁ → Pre ⟨T.setVm vm₁, locs, cells, slots⟩ argsL.toArray) :
    ∃ (v : Option Value) (vm₁ : Vm) (B : Pt), s.WarmedH vm₁ ∧ Stand p l e R s m args below meth c B.U B.locs B.cells B.slots ∧ Post ⟨T.setVm vm₁, locs, cells, slots⟩ argsL.toArray v B ∧
      ∀ target, Steps p.tables e below (B.U.setTop { g with pc := g.pc + 3, stack := v.toList ++ rest }) target → Steps p.tables e below (T.setTop g) target := by
  obtain ⟨mk, methM, cM, hnamed, hmethM, -, -, -, -, -, -, hsigM⟩ := Cond.codeWith_spec hcode
  have hstatic : methM.isStatic = true := Cond.static_spec hnamed hmethM hstat
  obtain ⟨kP, hkP, -⟩ := className_of_methodNamed hnamed
  have hinitP : kP.init = .initialized := Cond.initialized_spec (findClass_of_methodNamed hnamed) hkP hinit
  obtain ⟨vm₁, X₁, hstep₁⟩ := X.invokestatic hexec hown hlink hnamed hmethM hstatic hkP hinitP hy (g := g) hg (argsL := argsL) (rest := rest) (hlen _ hsigM) hstack hdg
  obtain ⟨v, B, X', hpost, hsteps⟩ := hK m meth c ⟨T.setVm vm₁, locs, cells, slots⟩ { g with stack := rest } (.invokestatic index) mk argsL.toArray X₁ hg hsize hdg hW (X₁.named hnamed) (hpre vm₁ X₁.warmed)
  exact ⟨v, vm₁, B, X₁.warmed, X', hpost, fun target h => hstep₁ _ fun acts => by rw [doInvoke_state]; exact hsteps.trans h⟩
theorem vx_runSW {y : MethodName} {bytes cc : ByteArray} {maxL nL mc ms n index : Nat} {ret : Option FieldType} {hh : List (Nat × Nat × Nat × Nat)} {ws : List Cond} {rm : Room} {Pc : Array Value → State → Prop} {Qc : Array Value → State → Outcome → State → Prop} {free : Addr → Prop} {Ts : List Cond} {own : String} {As rest : List Value} {g : JFrame}
    (S : CallFix p m c cc nL s args Ts own) (hM : Met l y ws rm Pc Qc mc ms free) (cw : vx_CSW R s args own index y bytes maxL ret hh ws rm mc ms n) (hp : PreS s H Pc As)
    (hg : g.method = m) (hn : As.length = n) (hsize : g.locals.size = nL) (hstack : g.stack = As.reverse ++ rest) (hW : 2 * g.monitorRoom + (rest.map fun v => v.category).sum ≤ 8) (hdg : decode cc g.pc = .ok (.invokestatic index, 3)) (hf : cells + mc ≤ R.cells ∧ slots + ms ≤ R.slots) :
    va_Run p l e R s m args below meth c H locs cells slots mc ms g rest (Qc As.toArray) (free) := by
  obtain ⟨⟨hrc, hrs, hfr, hlo, hws, hcw⟩, hcode, hini, hy, hlen, hl, hstt⟩ := cw
  have hK : Back l R p e below s args y 3 8 (PreOf R mc ms Pc) (PostOf Qc mc ms free) := va_backW (hh := hh) (bytes := bytes) (maxL := maxL) (ret := ret) hM hp.1 hrc hrs hfr hlo hws hcw (fun a' U hW => word_at hW (Or.inl (by first | rfl | simp [Cond.onTables, Cond.keeps, Cond.steady])) hini)
  obtain ⟨hx, hb, hml, ho, -⟩ := S
  intro T hT X
  obtain ⟨v, vm₁, ⟨U', l2, c2, s2⟩, hW₁, X', ⟨g', mk, t, L, e1, e2, hq, h1, hL, h2, h3⟩, st⟩ := vx_callSW X hx (hh := hh) (bytes := bytes) (maxL := maxL) (ret := ret) ho hl hstt hini hcode hy hK hg (hsize.trans hml.symm) (argsL := As) (rest := rest) (fun sig h => hn.trans (hlen sig h)) hstack hW (by rw [hb]; exact hdg)
    (fun vm₁ hW₁ => ⟨hf.1, hf.2, hp.2 (T.setVm vm₁) hT hW₁⟩)
  dsimp only [Pt.U, Pt.locs, Pt.cells, Pt.slots] at X' e1 e2 h1 h2 h3 st
  subst h1; subst h2; subst h3
  exact ⟨v, (T.setVm vm₁).calling g' mk As.toArray, t, U', L, hT, X', hL, e1, e2, hq, st⟩
/-- not caught here, past rows that name other classes: it goes on to the caller -/
theorem vx_outP {p : Program} {l : Launch} {e : Env} {R : Room} {s : State} {m : MethodId} {args : Array Value} {below : List Frame} {meth : Method} {c : Code} {H : Heap} {locs : List Loc} {cells slots : Nat} {free : Addr → Prop} {ls : Array Slot} {rest : List Value} {Qc : Array Value → State → Outcome → State → Prop} {XC : String → State → State → Prop}
    {pc : Nat} {own E : String} {ce : Cell} {q : Addr} {mc ms : Nat} (hown : s.vm.findClass own = some m.cls) (hlocks : meth.locks = false)
    (hpass : ∀ z ∈ c.exceptionTable.toList, covers z pc = false ∨ (z.catchType ≠ 0 ∧ ∃ nm : String, (Cond.classLink own z.catchType nm).before args s = true ∧ va_Nc E nm s)) (hcell : H[q]? = some ce) (hv : ce.vm = .none) (hcl : s.vm.findClass E = some ce.cls)
    (hx : ∀ t : State, t.heap = H → s.vm.Alike t.vm → XC E s t) (hf : ∀ z ∈ locs, free z.base) (hc : cells ≤ mc) (hs : slots ≤ ms) :
    vx_W p l e R s m args below meth c H locs cells slots (vx_MQ below Qc XC args s mc ms free) (F0 m pc ls rest) q := by
  intro T hT X
  have hpl : e.platform.magicAccessors = ({} : Platform).magicAccessors := by rw [X.admits.platform]
  obtain ⟨vm', hW', X', st⟩ := X.outThrough hlocks q (g := F0 m pc ls rest) rfl rfl rfl (cell := ce) (by rw [hT]; exact hcell) (by rw [hv]; rfl)
    (by obtain ⟨k9, h9, -⟩ := Vm.findClass_spec hcl; exact ⟨k9, h9⟩) (fun z hz => by
      rcases hpass z hz with h | ⟨hz0, nm, hl1, hn1⟩
      · exact Or.inl h
      · obtain ⟨c6, hc6, hcl6⟩ := Cond.classLink_spec hown hl1 e.platform hpl
        obtain ⟨a8, b8, h1, h2, h3⟩ := hn1
        cases Option.some.inj (h1.symm.trans hcl)
        cases Option.some.inj (h2.symm.trans hc6)
        exact Or.inr ⟨hz0, _, hcl6, h3⟩)
  obtain ⟨g₀, hfr⟩ := X'.frames_eq
  have hcell9 : ((T.setVm vm').setFrames (.throwing q :: below)).heap[q]? = some ce := by
    show T.heap[q]? = some ce
    rw [hT]; exact hcell
  have hend : Ended ((T.setVm vm').setFrames (.throwing q :: below)) below (.threw q) := State.frames_setFrames _ (State.cur_lt_of_frames hfr)
  refine ⟨(T.setVm vm').setFrames (.throwing q :: below), ?_, .threw q, X'.here.running, hend, Or.inr ⟨q, rfl, E, ce, locs, hx _ hT (X'.ends _).1.alike, hcell9, hv, hcl, (X'.ends _).1, (X'.ends _).2.mono hc hs, hf⟩⟩
  rw [X.pushThrowing_eq]
  exact st
/-- a thing of a world lies in the heap -/
theorem vx_lt {D : va_G} {cl : List vw_C} {ws : va_W} {H1 : Heap} (h : va_P D cl ws H1) {k : Nat} {q : Nat × va_E} (hk : ws[k]? = some q) : q.1 < H1.size := (h k q hk).lt
end VXS
/-! ===== END ===== -/
/-! ===== BEGIN methods with a table of their own: called by a name, returning or throwing ===== -/
section VXH
/-! vx_backW, vx_callVX, vx_callSX, vx_callVW, vx_runVW, vx_runVX, vx_runSX, vx_ofWH follow the same proofs as their sisters above (Free/Laws.lean, Shelf42/LK1.lean); vx_outP calls Shelf42/NT130.lean (outThrough). -/
section
variable {l : Launch} {R : Room} {p : Program} {e : Env} {below : List Frame} {s : State} {sargs : Array Value} {y : MethodName} {len W9 : Nat}
theorem vx_backW {ws : List Cond} {rm : Room} {Pc : Array Value → State → Prop} {Qc : Array Value → State → Outcome → State → Prop} {XC : String → State → State → Prop} {mc ms : Nat} {free : Addr → Prop} {bytes : ByteArray} {maxL : Nat} {ret : Option FieldType} {hh : List (Nat × Nat × Nat × Nat)}
    (hM : vx_Met l y ws rm Pc Qc XC mc ms free) (hblind : FrameBlind Pc) (hrc : rm.cells = mc) (hrs : rm.slots = ms)
    (hframes : rm.frames + 1 ≤ R.frames) (hlocals : W9 + (maxL + 11) + rm.locals ≤ R.locals)
    (hws : ∀ w ∈ ws, ∀ a' U, s.WarmedH U.vm → w.before a' U = true) (hcode : Cond.codeWith y bytes maxL ret hh ∈ ws) (hinit : ∀ a' U, s.WarmedH U.vm → (Cond.initialized y.cls).before a' U = true) :
    vx_Back l R p e below s sargs y len W9 (PreOf R mc ms Pc) (PostOf Qc mc ms free) (vx_Post XC mc ms free) := by
  intro m meth c A g ig mk a X hg hsize hdg hW hn hp
  have h1 : (headSpec ws rm).pre.before a A.U = true := atoms_intro fun w hw => hws w hw _ _ X.warmed
  have h2 : (Cond.codeWith y bytes maxL ret hh).before a A.U = true := hws _ hcode _ _ X.warmed
  have h3 : (Cond.initialized y.cls).before a A.U = true := hinit _ _ X.warmed
  have h4 : A.cells + (headSpec ws rm).room.cells ≤ R.cells := by rw [show (headSpec ws rm).room.cells = mc from hrc]; exact hp.1
  have h5 : A.slots + (headSpec ws rm).room.slots ≤ R.slots := by rw [show (headSpec ws rm).room.slots = ms from hrs]; exact hp.2.1
  have hPc : Pc a (A.U.calling g mk a) := hblind _ _ _ _ hp.2.2
  obtain ⟨U, Ls, c0, s0⟩ := A
  dsimp only [Pt.U, Pt.locs, Pt.cells, Pt.slots] at h1 h2 h3 h4 h5 X hn hPc ⊢
  obtain ⟨m9, methY, cY, hn9, hmY, hcY, -, hlY, -⟩ := Cond.codeWith_spec h2
  cases Option.some.inj (hn9.symm.trans hn)
  obtain ⟨kY, hkY, -⟩ := className_of_methodNamed hn
  have hinitY : kY.init = .initialized := Cond.initialized_spec (findClass_of_methodNamed hn) hkY h3
  have h : At U g.method c below := by rw [hg]; exact X.here
  have hlocals9 : W9 + (maxL + 11) + (headSpec ws rm).room.locals ≤ R.locals := hlocals
  have happ : (headSpec ws rm).appliesLoose y e.platform (U.calling g mk a) = true :=
    Spec.appliesLoose_calling (g := g) h hdg hn hkY hinitY
      (X.room_calling (g := g) (R' := (headSpec ws rm).room) hsize hmY hcY hframes (by rw [hlY]; omega) h4 h5) h1
  obtain ⟨mid, hmid⟩ := h.above
  have hfr : (U.setTop g).frames = (.java g :: mid) ++ below := by rw [State.frames_setTop' g h.top, hmid]; rfl
  obtain ⟨o, s₂, hsteps, -, hend, hq⟩ := Steps.callFree hM p X.admits X.cas X.clock (acts := []) hfr happ hPc trivial
  have hq' : vx_Q Qc XC mc ms free a (U.calling g mk a) o s₂ := hq
  rw [State.frames_setTop' g h.top] at hend
  obtain ⟨g₀, hg0⟩ := Option.isSome_iff_exists.mp h.top
  obtain ⟨r, hr⟩ := State.topJava?_eq_some.mp hg0
  have hr' : (({ U with heap := s₂.heap, slotsUsed := s₂.slotsUsed } : State).setVm s₂.vm).frames = .java g₀ :: r := hr
  rcases hq' with ⟨hqc, L, hfe, hL⟩ | ⟨q, rfl, E, ce, L, hx, hce, hcv, hcl, hW₂, hsm, hL⟩
  · obtain ⟨⟨v, rfl⟩, hW₂, e2, q2, q3, q4, q5, q6⟩ := id hfe
    have e3 : s₂ = ({ (U.calling g mk a).setFrames s₂.frames with heap := s₂.heap, slotsUsed := s₂.slotsUsed } : State).setVm s₂.vm := by
      have : s₂ = ({ s₂ with vm := (U.calling g mk a).vm } : State).setVm s₂.vm := rfl
      rw [e2] at this
      exact this
    obtain ⟨c₂, i₂, len₂, hc₂, hd₂, hf₂⟩ := hend
    have hW' : U.WarmedH s₂.vm := hW₂
    have hcc : c₂ = c := by
      have h1 : s₂.code? g.method = U.code? g.method := by
        rw [State.code?_eq, State.code?_eq, hW'.alike.method?]
      exact Option.some.inj (hc₂.symm.trans (h1.trans h.code))
    subst hcc
    have hlen : len₂ = len := by rw [hdg] at hd₂; cases hd₂; rfl
    subst hlen
    have hs₂ : s₂ = (({ U with heap := s₂.heap, slotsUsed := s₂.slotsUsed } : State).setVm s₂.vm).setTop { g with pc := g.pc + len₂, stack := v.toList ++ g.stack } := by
      refine e3.trans ?_
      rw [hf₂, State.calling_eq h.top, State.setFrames_setFrames, State.setTop_of_frames _ hr', hr]
      rfl
    have hsame : U.sameButNew ({ U with heap := s₂.heap, slotsUsed := s₂.slotsUsed } : State) L mc ms := by
      refine ⟨?_, q2, q3, q4, q5, q6⟩
      obtain ⟨t, ht, -⟩ := State.frames_cons hr
      show ({ U with heap := s₂.heap, slotsUsed := s₂.slotsUsed } : State) = { U.setFrames U.frames with heap := s₂.heap, slotsUsed := s₂.slotsUsed }
      rw [State.setFrames_self ht]
    subst hg
    refine Or.inl ⟨v, ⟨(({ U with heap := s₂.heap, slotsUsed := s₂.slotsUsed } : State).setVm s₂.vm), Ls ++ L, c0 + mc, s0 + ms⟩,
      ⟨X.admits, X.cas, X.clock, X.frames, X.room, X.hears, X.method, X.code, (X.here.setHeapUsed s₂.heap s₂.slotsUsed).setVm hW'.alike, X.tail, State.WarmedH.trans X.warmed hW', X.limits, X.bytes, X.same.trans (hsame.setVm s.vm)⟩,
      ⟨g, mk, s₂, L, rfl, rfl, hqc, rfl, hL, rfl, rfl⟩, ?_⟩
    show Steps p.tables e below _ ((({ U with heap := s₂.heap, slotsUsed := s₂.slotsUsed } : State).setVm s₂.vm).setTop { g with pc := g.pc + len₂, stack := v.toList ++ g.stack })
    rw [← hs₂]
    exact hsteps
  · obtain ⟨e2, q2, q3, q4, q5, q6⟩ := id hsm
    have e3 : s₂ = ({ (U.calling g mk a).setFrames s₂.frames with heap := s₂.heap, slotsUsed := s₂.slotsUsed } : State).setVm s₂.vm := by
      have : s₂ = ({ s₂ with vm := (U.calling g mk a).vm } : State).setVm s₂.vm := rfl
      rw [e2] at this
      exact this
    have hf₂ : s₂.frames = .throwing q :: .java g :: U.frames.tail := hend
    have hW' : U.WarmedH s₂.vm := hW₂
    have hs₂ : s₂ = ((({ U with heap := s₂.heap, slotsUsed := s₂.slotsUsed } : State).setVm s₂.vm).setTop g).pushFrame (.throwing q) := by
      refine e3.trans ?_
      rw [hf₂, State.calling_eq h.top, State.setFrames_setFrames, State.pushFrame, State.frames_setTop _ hr', State.setTop_of_frames _ hr', State.setFrames_setFrames, hr]
      rfl
    have hsame : U.sameButNew ({ U with heap := s₂.heap, slotsUsed := s₂.slotsUsed } : State) L mc ms := by
      refine ⟨?_, q2, q3, q4, q5, q6⟩
      obtain ⟨t, ht, -⟩ := State.frames_cons hr
      show ({ U with heap := s₂.heap, slotsUsed := s₂.slotsUsed } : State) = { U.setFrames U.frames with heap := s₂.heap, slotsUsed := s₂.slotsUsed }
      rw [State.setFrames_self ht]
    subst hg
    refine Or.inr ⟨q, ⟨(({ U with heap := s₂.heap, slotsUsed := s₂.slotsUsed } : State).setVm s₂.vm), Ls ++ L, c0 + mc, s0 + ms⟩,
      ⟨X.admits, X.cas, X.clock, X.frames, X.room, X.hears, X.method, X.code, (X.here.setHeapUsed s₂.heap s₂.slotsUsed).setVm hW'.alike, X.tail, State.WarmedH.trans X.warmed hW', X.limits, X.bytes, X.same.trans (hsame.setVm s.vm)⟩,
      ⟨g, mk, s₂, L, E, ce, rfl, rfl, hx, hce, hcv, hcl, rfl, hL, rfl, rfl⟩, ?_⟩
    show Steps p.tables e below _ (((({ U with heap := s₂.heap, slotsUsed := s₂.slotsUsed } : State).setVm s₂.vm).setTop g).pushFrame (.throwing q))
    rw [← hs₂]
    exact hsteps
end
variable {p : Program} {l : Launch} {e : Env} {R : Room} {s : State} {m : MethodId} {args : Array Value} {below : List Frame} {meth : Method} {c : Code} {T : State} {H : Heap} {locs : List Loc} {cells slots : Nat}
theorem vx_callVX (X : Stand p l e R s m args below meth c T locs cells slots) (hexec : p.tables.exec = Jvm.exec) {own C : String} {index : Nat} {y : MethodName} {bytes : ByteArray} {maxL : Nat} {ret : Option FieldType} {hh : List (Nat × Nat × Nat × Nat)}
    (hown : s.vm.findClass own = some m.cls) (hlink : (Cond.methodLink own index y).before args s = true) (hinst : (Cond.instanceMethod y).before args s = true) (hsel : (Cond.selects C y y).before args s = true)
    (hcode : (Cond.codeWith y bytes maxL ret hh).before args s = true) (hy : y.cls ≠ "java/lang/invoke/MethodHandle" ∧ y.cls ≠ "java/lang/invoke/VarHandle")
    {W9 : Nat} {Pre : Pt → Array Value → Prop} {Post : Pt → Array Value → Option Value → Pt → Prop} {PostX : Pt → Array Value → Addr → Pt → Prop} (hK : vx_Back l R p e below s args y 3 W9 Pre Post PostX)
    {b : Addr} {cellB : Cell} (hcell : T.heap[b]? = some cellB) (hobj : cellB.vm.isStatics = false) (hcls : s.vm.findClass C = some cellB.cls)
    {g : JFrame} (hg : g.method = m) (hsize : g.locals.size = c.maxLocals) {argsL rest : List Value} (hlen : ∀ sig, parseMethodDescriptor y.desc = some sig → argsL.length = sig.parameters.length)
    (hstack : g.stack = argsL.reverse ++ .ref b :: rest) (hW : 2 * g.monitorRoom + (rest.map fun v => v.category).sum ≤ W9) (hdg : decode c.code g.pc = .ok (.invokevirtual index, 3))
    (hpre : ∀ vm₁, s.WarmedH vm₁ → Pre ⟨T.setVm vm₁, locs, cells, slots⟩ (Value.ref b :: argsL).toArray) :
    (∃ (v : Option Value) (vm₁ : Vm) (B : Pt), s.WarmedH vm₁ ∧ Stand p l e R s m args below meth c B.U B.locs B.cells B.slots ∧ Post ⟨T.setVm vm₁, locs, cells, slots⟩ (Value.ref b :: argsL).toArray v B ∧
      ∀ target, Steps p.tables e below (B.U.setTop { g with pc := g.pc + 3, stack := v.toList ++ rest }) target → Steps p.tables e below (T.setTop g) target) ∨
    (∃ (q : Addr) (vm₁ : Vm) (B : Pt), s.WarmedH vm₁ ∧ Stand p l e R s m args below meth c B.U B.locs B.cells B.slots ∧ PostX ⟨T.setVm vm₁, locs, cells, slots⟩ (Value.ref b :: argsL).toArray q B ∧
      Steps p.tables e below (T.setTop g) ((B.U.setTop { g with stack := rest }).pushFrame (.throwing q))) := by
  obtain ⟨mk, methM, hnamed, hmethM, hstM, habM⟩ := Cond.instanceMethod_spec hinst
  obtain ⟨m8, methM', cM, hn8, hmethM', -, -, -, -, -, -, hsigM⟩ := Cond.codeWith_spec hcode
  cases Option.some.inj (hn8.symm.trans hnamed)
  cases hmethM.symm.trans hmethM'
  obtain ⟨c2, r2, m2, q1, q2, q3, q4, kP, hkP, hkPi⟩ := Cond.selects_spec hsel
  cases hcls.symm.trans q1
  cases (State.methodFound?_of_named hnamed hy).symm.trans q2
  cases hnamed.symm.trans q3
  have hselP : selectMethod e.platform s.vm cellB.cls mk = .method mk := by rw [Launch.admits_selectMethod X.admits]; exact q4
  obtain ⟨vm₁, X₁, hstep₁⟩ := X.invokevirtual hexec hown hlink hnamed hmethM hstM hkP hkPi hy (a := b) (cell := cellB) hcell
    (fun z h => by rw [h] at hobj; cases hobj) hselP hmethM habM hkP hkPi (g := g) hg (argsL := argsL) (rest := rest) (hlen _ hsigM) hstack hdg
  rcases hK m meth c ⟨T.setVm vm₁, locs, cells, slots⟩ { g with stack := rest } (.invokevirtual index) mk (Value.ref b :: argsL).toArray X₁ hg hsize hdg hW (X₁.named hnamed) (hpre vm₁ X₁.warmed) with ⟨v, B, X', hpost, hsteps⟩ | ⟨q, B, X', hpost, hsteps⟩
  · exact Or.inl ⟨v, vm₁, B, X₁.warmed, X', hpost, fun target h => hstep₁ _ fun acts => by rw [doInvoke_state]; exact hsteps.trans h⟩
  · exact Or.inr ⟨q, vm₁, B, X₁.warmed, X', hpost, hstep₁ _ fun acts => by rw [doInvoke_state]; exact hsteps⟩
theorem vx_callSX (X : Stand p l e R s m args below meth c T locs cells slots) (hexec : p.tables.exec = Jvm.exec) {own : String} {index : Nat} {y : MethodName} {bytes : ByteArray} {maxL : Nat} {ret : Option FieldType} {hh : List (Nat × Nat × Nat × Nat)}
    (hown : s.vm.findClass own = some m.cls) (hlink : (Cond.methodLink own index y).before args s = true) (hstat : (Cond.static y).before args s = true) (hinit : (Cond.initialized y.cls).before args s = true)
    (hcode : (Cond.codeWith y bytes maxL ret hh).before args s = true) (hy : y.cls ≠ "java/lang/invoke/MethodHandle" ∧ y.cls ≠ "java/lang/invoke/VarHandle")
    {W9 : Nat} {Pre : Pt → Array Value → Prop} {Post : Pt → Array Value → Option Value → Pt → Prop} {PostX : Pt → Array Value → Addr → Pt → Prop} (hK : vx_Back l R p e below s args y 3 W9 Pre Post PostX)
    {g : JFrame} (hg : g.method = m) (hsize : g.locals.size = c.maxLocals) {argsL rest : List Value} (hlen : ∀ sig, parseMethodDescriptor y.desc = some sig → argsL.length = sig.parameters.length)
    (hstack : g.stack = argsL.reverse ++ rest) (hW : 2 * g.monitorRoom + (rest.map fun v => v.category).sum ≤ W9) (hdg : decode c.code g.pc = .ok (.invokestatic index, 3))
    (hpre : ∀ vm₁, s.WarmedH vm₁ → Pre ⟨T.setVm vm₁, locs, cells, slots⟩ argsL.toArray) :
    (∃ (v : Option Value) (vm₁ : Vm) (B : Pt), s.WarmedH vm₁ ∧ Stand p l e R s m args below meth c B.U B.locs B.cells B.slots ∧ Post ⟨T.setVm vm₁, locs, cells, slots⟩ argsL.toArray v B ∧
      ∀ target, Steps p.tables e below (B.U.setTop { g with pc := g.pc + 3, stack := v.toList ++ rest }) target → Steps p.tables e below (T.setTop g) target) ∨
    (∃ (q : Addr) (vm₁ : Vm) (B : Pt), s.WarmedH vm₁ ∧ Stand p l e R s m args below meth c B.U B.locs B.cells B.slots ∧ PostX ⟨T.setVm vm₁, locs, cells, slots⟩ argsL.toArray q B ∧
      Steps p.tables e below (T.setTop g) ((B.U.setTop { g with stack := rest }).pushFrame (.throwing q))) := by
  obtain ⟨mk, methM, cM, hnamed, hmethM, -, -, -, -, -, -, hsigM⟩ := Cond.codeWith_spec hcode
  have hstatic : methM.isStatic = true := Cond.static_spec hnamed hmethM hstat
  obtain ⟨kP, hkP, -⟩ := className_of_methodNamed hnamed
  have hinitP : kP.init = .initialized := Cond.initialized_spec (findClass_of_methodNamed hnamed) hkP hinit
  obtain ⟨vm₁, X₁, hstep₁⟩ := X.invokestatic hexec hown hlink hnamed hmethM hstatic hkP hinitP hy (g := g) hg (argsL := argsL) (rest := rest) (hlen _ hsigM) hstack hdg
  rcases hK m meth c ⟨T.setVm vm₁, locs, cells, slots⟩ { g with stack := rest } (.invokestatic index) mk argsL.toArray X₁ hg hsize hdg hW (X₁.named hnamed) (hpre vm₁ X₁.warmed) with ⟨v, B, X', hpost, hsteps⟩ | ⟨q, B, X', hpost, hsteps⟩
  · exact Or.inl ⟨v, vm₁, B, X₁.warmed, X', hpost, fun target h => hstep₁ _ fun acts => by rw [doInvoke_state]; exact hsteps.trans h⟩
  · exact Or.inr ⟨q, vm₁, B, X₁.warmed, X', hpost, hstep₁ _ fun acts => by rw [doInvoke_state]; exact hsteps⟩
theorem vx_callVW (X : Stand p l e R s m args below meth c T locs cells slots) (hexec : p.tables.exec = Jvm.exec) {own C : String} {index : Nat} {y : MethodName} {bytes : ByteArray} {maxL : Nat} {ret : Option FieldType} {hh : List (Nat × Nat × Nat × Nat)}
    (hown : s.vm.findClass own = some m.cls) (hlink : (Cond.methodLink own index y).before args s = true) (hinst : (Cond.instanceMethod y).before args s = true) (hsel : (Cond.selects C y y).before args s = true)
    (hcode : (Cond.codeWith y bytes maxL ret hh).before args s = true) (hy : y.cls ≠ "java/lang/invoke/MethodHandle" ∧ y.cls ≠ "java/lang/invoke/VarHandle")
    {W9 : Nat} {Pre : Pt → Array Value → Prop} {Post : Pt → Array Value → Option Value → Pt → Prop} (hK : Back l R p e below s args y 3 W9 Pre Post)
    {b : Addr} {cellB : Cell} (hcell : T.heap[b]? = some cellB) (hobj : cellB.vm.isStatics = false) (hcls : s.vm.findClass C = some cellB.cls)
    {g : JFrame} (hg : g.method = m) (hsize : g.locals.size = c.maxLocals) {argsL rest : List Value} (hlen : ∀ sig, parseMethodDescriptor y.desc = some sig → argsL.length = sig.parameters.length)
    (hstack : g.stack = argsL.reverse ++ .ref b :: rest) (hW : 2 * g.monitorRoom + (rest.map fun v => v.category).sum ≤ W9) (hdg : decode c.code g.pc = .ok (.invokevirtual index, 3))
    (hpre : ∀ vm₁, s.WarmedH vm₁ → Pre ⟨T.setVm vm₁, locs, cells, slots⟩ (Value.ref b :: argsL).toArray) :
    ∃ (v : Option Value) (vm₁ : Vm) (B : Pt), s.WarmedH vm₁ ∧ Stand p l e R s m args below meth c B.U B.locs B.cells B.slots ∧ Post ⟨T.setVm vm₁, locs, cells, slots⟩ (Value.ref b :: argsL).toArray v B ∧
      ∀ target, Steps p.tables e below (B.U.setTop { g with pc := g.pc + 3, stack := v.toList ++ rest }) target → Steps p.tables e below (T.setTop g) target := by
  obtain ⟨mk, methM, hnamed, hmethM, hstM, habM⟩ := Cond.instanceMethod_spec hinst
  obtain ⟨m8, methM', cM, hn8, hmethM', -, -, -, -, -, -, hsigM⟩ := Cond.codeWith_spec hcode
  cases Option.some.inj (hn8.symm.trans hnamed)
  cases hmethM.symm.trans hmethM'
  obtain ⟨c2, r2, m2, q1, q2, q3, q4, kP, hkP, hkPi⟩ := Cond.selects_spec hsel
  cases hcls.symm.trans q1
  cases (State.methodFound?_of_named hnamed hy).symm.trans q2
  cases hnamed.symm.trans q3
  have hselP : selectMethod e.platform s.vm cellB.cls mk = .method mk := by rw [Launch.admits_selectMethod X.admits]; exact q4
  obtain ⟨vm₁, X₁, hstep₁⟩ := X.invokevirtual hexec hown hlink hnamed hmethM hstM hkP hkPi hy (a := b) (cell := cellB) hcell
    (fun z h => by rw [h] at hobj; cases hobj) hselP hmethM habM hkP hkPi (g := g) hg (argsL := argsL) (rest := rest) (hlen _ hsigM) hstack hdg
  obtain ⟨v, B, X', hpost, hsteps⟩ := hK m meth c ⟨T.setVm vm₁, locs, cells, slots⟩ { g with stack := rest } (.invokevirtual index) mk (Value.ref b :: argsL).toArray X₁ hg hsize hdg hW (X₁.named hnamed) (hpre vm₁ X₁.warmed)
  exact ⟨v, vm₁, B, X₁.warmed, X', hpost, fun target h => hstep₁ _ fun acts => by rw [doInvoke_state]; exact hsteps.trans h⟩
abbrev vx_CVW (R : Room) (s : State) (args : Array Value) (own C : String) (index : Nat) (y : MethodName) (bytes : ByteArray) (maxL : Nat) (ret : Option FieldType) (hh : List (Nat × Nat × Nat × Nat)) (ws : List Cond) (rm : Room) (mc ms n : Nat) : Prop :=
  (rm.cells = mc ∧ rm.slots = ms ∧ rm.frames + 1 ≤ R.frames ∧ 8 + (maxL + 11) + rm.locals ≤ R.locals ∧ (∀ w ∈ ws, ∀ (a' : Array Value) (U : State), s.WarmedH U.vm → w.before a' U = true) ∧ Cond.codeWith y bytes maxL ret hh ∈ ws) ∧
  (Cond.codeWith y bytes maxL ret hh).before args s = true ∧ (Cond.initialized y.cls).before args s = true ∧ (y.cls ≠ "java/lang/invoke/MethodHandle" ∧ y.cls ≠ "java/lang/invoke/VarHandle") ∧
  (∀ sig, parseMethodDescriptor y.desc = some sig → n = sig.parameters.length) ∧ (Cond.methodLink own index y).before args s = true ∧ (Cond.instanceMethod y).before args s = true ∧ (Cond.selects C y y).before args s = true
theorem vx_cwVW {own C : String} {index maxL mc ms : Nat} {y : MethodName} {bytes : ByteArray} {ret : Option FieldType} {hh : List (Nat × Nat × Nat × Nat)} {Ts ws ws' : List Cond} {rm : Room} (n : Nat) (ht : ∀ w ∈ Ts, w.before args s = true) (hT : GoodIn Ts (wsV own index C y ws)) (hw : ws = Cond.codeWith y bytes maxL ret hh :: ws') (hrc : rm.cells = mc) (hrs : rm.slots = ms)
    (hd : y.cls = C ∧ y.cls ≠ "java/lang/invoke/MethodHandle" ∧ y.cls ≠ "java/lang/invoke/VarHandle" ∧ (parseMethodDescriptor y.desc).map (fun d => d.parameters.length) = some n) (hR : rm.frames + 1 ≤ R.frames ∧ 8 + (maxL + 11) + rm.locals ≤ R.locals) :
    vx_CVW R s args own C index y bytes maxL ret hh ws rm mc ms n := by
  obtain ⟨hC, hd⟩ := hd
  subst hC
  have ok : ∀ w ∈ wsV own index y.cls y ws, w.before args s = true := fun w h => ht w (hT w h).1
  have hG : GoodIn Ts ws := fun w h => hT w (by unfold wsV; exact List.mem_append_right _ h)
  have hc : Cond.codeWith y bytes maxL ret hh ∈ ws := by rw [hw]; exact List.mem_cons_self
  refine ⟨⟨hrc, hrs, hR.1, hR.2, pay_in ht hG, hc⟩, ht _ (hG _ hc).1, ok _ (by simp [wsV]), ⟨hd.1, hd.2.1⟩, fun sig h => ?_, ok _ (by simp [wsV]), ok _ (by simp [wsV]), ok _ (by simp [wsV])⟩
  have h2 := hd.2.2
  rw [h] at h2
  exact (Option.some.inj h2).symm
theorem vx_runVW {y : MethodName} {bytes cc : ByteArray} {maxL nL mc ms n index : Nat} {ret : Option FieldType} {hh : List (Nat × Nat × Nat × Nat)} {ws : List Cond} {rm : Room} {Pc : Array Value → State → Prop} {Qc : Array Value → State → Outcome → State → Prop} {free : Addr → Prop} {Ts : List Cond} {own C : String} {b : Addr} {As rest : List Value} {g : JFrame}
    (S : CallFix p m c cc nL s args Ts own) (hM : Met l y ws rm Pc Qc mc ms free) (cw : vx_CVW R s args own C index y bytes maxL ret hh ws rm mc ms n) (hp : PreV s H C b Pc As)
    (hg : g.method = m) (hn : As.length = n) (hsize : g.locals.size = nL) (hstack : g.stack = As.reverse ++ .ref b :: rest) (hW : 2 * g.monitorRoom + (rest.map fun v => v.category).sum ≤ 8) (hdg : decode cc g.pc = .ok (.invokevirtual index, 3)) (hf : cells + mc ≤ R.cells ∧ slots + ms ≤ R.slots) :
    va_Run p l e R s m args below meth c H locs cells slots mc ms g rest (Qc (Value.ref b :: As).toArray) free := by
  obtain ⟨⟨hrc, hrs, hfr, hlo, hws, hcw⟩, hcode, hini, hy, hlen, hl, hin, hse⟩ := cw
  have hK : Back l R p e below s args y 3 8 (PreOf R mc ms Pc) (PostOf Qc mc ms free) := va_backW (hh := hh) (bytes := bytes) (maxL := maxL) (ret := ret) hM hp.1 hrc hrs hfr hlo hws hcw (fun a' U hW => word_at hW (Or.inl (by first | rfl | simp [Cond.onTables, Cond.keeps, Cond.steady])) hini)
  obtain ⟨hx, hb, hml, ho, -⟩ := S
  obtain ⟨-, ⟨cellB, hcB, hoB, hclB⟩, hPc⟩ := hp
  intro T hT X
  obtain ⟨v, vm₁, ⟨U', l2, c2, s2⟩, hW₁, X', ⟨g', mk, t, L, e1, e2, hq, h1, hL, h2, h3⟩, st⟩ := vx_callVW X hx (C := C) (hh := hh) (bytes := bytes) (maxL := maxL) (ret := ret) ho hl hin hse hcode hy hK (by rw [hT]; exact hcB) hoB hclB hg (hsize.trans hml.symm) (argsL := As) (rest := rest) (fun sig h => hn.trans (hlen sig h)) hstack hW (by rw [hb]; exact hdg)
    (fun vm₁ hW₁ => ⟨hf.1, hf.2, hPc (T.setVm vm₁) hT hW₁⟩)
  dsimp only [Pt.U, Pt.locs, Pt.cells, Pt.slots] at X' e1 e2 h1 h2 h3 st
  subst h1; subst h2; subst h3
  exact ⟨v, (T.setVm vm₁).calling g' mk (Value.ref b :: As).toArray, t, U', L, hT, X', hL, e1, e2, hq, st⟩
section
variable {y : MethodName} {bytes cc : ByteArray} {maxL nL mc ms n index : Nat} {ret : Option FieldType} {ws : List Cond} {rm : Room} {Pc : Array Value → State → Prop} {Qc : Array Value → State → Outcome → State → Prop} {XC : String → State → State → Prop} {free : Addr → Prop} {Ts : List Cond} {own C : String} {b : Addr} {As rest : List Value} {g : JFrame}
theorem vx_runVX {hh : List (Nat × Nat × Nat × Nat)} (S : CallFix p m c cc nL s args Ts own) (hM : vx_Met l y ws rm Pc Qc XC mc ms free) (cw : vx_CVW R s args own C index y bytes maxL ret hh ws rm mc ms n) (hp : PreV s H C b Pc As)
    (hg : g.method = m) (hn : As.length = n) (hsize : g.locals.size = nL) (hstack : g.stack = As.reverse ++ .ref b :: rest) (hW : 2 * g.monitorRoom + (rest.map fun v => v.category).sum ≤ 8) (hdg : decode cc g.pc = .ok (.invokevirtual index, 3)) (hf : cells + mc ≤ R.cells ∧ slots + ms ≤ R.slots) :
    vx_Run p l e R s m args below meth c H locs cells slots mc ms g rest (Qc (Value.ref b :: As).toArray) XC free := by
  obtain ⟨⟨hrc, hrs, hfr, hlo, hws, hcw⟩, hcode, hini, hy, hlen, hl, hin, hse⟩ := cw
  have hK : vx_Back l R p e below s args y 3 8 (PreOf R mc ms Pc) (PostOf Qc mc ms free) (vx_Post XC mc ms free) := vx_backW (hh := hh) (bytes := bytes) (maxL := maxL) (ret := ret) hM hp.1 hrc hrs hfr hlo hws hcw (fun a' U hW => word_at hW (Or.inl (by first | rfl | simp [Cond.onTables, Cond.keeps, Cond.steady])) hini)
  obtain ⟨hx, hb, hml, ho, -⟩ := S
  obtain ⟨-, ⟨cellB, hcB, hoB, hclB⟩, hPc⟩ := hp
  intro T hT X
  rcases vx_callVX X hx (C := C) (hh := hh) (bytes := bytes) (maxL := maxL) (ret := ret) ho hl hin hse hcode hy hK (by rw [hT]; exact hcB) hoB hclB hg (hsize.trans hml.symm) (argsL := As) (rest := rest) (fun sig h => hn.trans (hlen sig h)) hstack hW (by rw [hb]; exact hdg)
    (fun vm₁ hW₁ => ⟨hf.1, hf.2, hPc (T.setVm vm₁) hT hW₁⟩) with ⟨v, vm₁, ⟨U', l2, c2, s2⟩, hW₁, X', ⟨g', mk, t, L, e1, e2, hq, h1, hL, h2, h3⟩, st⟩ | ⟨q, vm₁, ⟨U', l2, c2, s2⟩, hW₁, X', ⟨g', mk, t, L, E, ce, e1, e2, hq, hce, hcv, hcl, h1, hL, h2, h3⟩, st⟩
  · dsimp only [Pt.U, Pt.locs, Pt.cells, Pt.slots] at X' e1 e2 h1 h2 h3 st
    subst h1; subst h2; subst h3
    exact Or.inl ⟨v, (T.setVm vm₁).calling g' mk (Value.ref b :: As).toArray, t, U', L, hT, X', hL, e1, e2, hq, st⟩
  · dsimp only [Pt.U, Pt.locs, Pt.cells, Pt.slots] at X' e1 e2 h1 h2 h3 st hcl
    subst h1; subst h2; subst h3
    exact Or.inr ⟨q, (T.setVm vm₁).calling g' mk (Value.ref b :: As).toArray, t, U', L, E, ce, hT, X', hL, e1, e2, hq, hce, hcv, vx_cls hW₁ hcl, st⟩
theorem vx_runSX {hh : List (Nat × Nat × Nat × Nat)} (S : CallFix p m c cc nL s args Ts own) (hM : vx_Met l y ws rm Pc Qc XC mc ms free) (cw : vx_CSW R s args own index y bytes maxL ret hh ws rm mc ms n) (hp : PreS s H Pc As)
    (hg : g.method = m) (hn : As.length = n) (hsize : g.locals.size = nL) (hstack : g.stack = As.reverse ++ rest) (hW : 2 * g.monitorRoom + (rest.map fun v => v.category).sum ≤ 8) (hdg : decode cc g.pc = .ok (.invokestatic index, 3)) (hf : cells + mc ≤ R.cells ∧ slots + ms ≤ R.slots) :
    vx_Run p l e R s m args below meth c H locs cells slots mc ms g rest (Qc As.toArray) XC free := by
  obtain ⟨⟨hrc, hrs, hfr, hlo, hws, hcw⟩, hcode, hini, hy, hlen, hl, hstt⟩ := cw
  have hK : vx_Back l R p e below s args y 3 8 (PreOf R mc ms Pc) (PostOf Qc mc ms free) (vx_Post XC mc ms free) := vx_backW (hh := hh) (bytes := bytes) (maxL := maxL) (ret := ret) hM hp.1 hrc hrs hfr hlo hws hcw (fun a' U hW => word_at hW (Or.inl (by first | rfl | simp [Cond.onTables, Cond.keeps, Cond.steady])) hini)
  obtain ⟨hx, hb, hml, ho, -⟩ := S
  intro T hT X
  rcases vx_callSX X hx (hh := hh) (bytes := bytes) (maxL := maxL) (ret := ret) ho hl hstt hini hcode hy hK hg (hsize.trans hml.symm) (argsL := As) (rest := rest) (fun sig h => hn.trans (hlen sig h)) hstack hW (by rw [hb]; exact hdg)
    (fun vm₁ hW₁ => ⟨hf.1, hf.2, hp.2 (T.setVm vm₁) hT hW₁⟩) with ⟨v, vm₁, ⟨U', l2, c2, s2⟩, hW₁, X', ⟨g', mk, t, L, e1, e2, hq, h1, hL, h2, h3⟩, st⟩ | ⟨q, vm₁, ⟨U', l2, c2, s2⟩, hW₁, X', ⟨g', mk, t, L, E, ce, e1, e2, hq, hce, hcv, hcl, h1, hL, h2, h3⟩, st⟩
  · dsimp only [Pt.U, Pt.locs, Pt.cells, Pt.slots] at X' e1 e2 h1 h2 h3 st
    subst h1; subst h2; subst h3
    exact Or.inl ⟨v, (T.setVm vm₁).calling g' mk As.toArray, t, U', L, hT, X', hL, e1, e2, hq, st⟩
  · dsimp only [Pt.U, Pt.locs, Pt.cells, Pt.slots] at X' e1 e2 h1 h2 h3 st hcl
    subst h1; subst h2; subst h3
    exact Or.inr ⟨q, (T.setVm vm₁).calling g' mk As.toArray, t, U', L, E, ce, hT, X', hL, e1, e2, hq, hce, hcv, vx_cls hW₁ hcl, st⟩
end
end VXH
theorem vx_ofWH {l : Launch} {y : MethodName} {ws ws' : List Cond} {rm : Room} {Pc : Array Value → State → Prop} {Qc : Array Value → State → Outcome → State → Prop} {XC : String → State → State → Prop} {mc ms : Nat} {free : Addr → Prop} {cc : ByteArray} {maxL : Nat} {ret : Option FieldType} {hh : List (Nat × Nat × Nat × Nat)}
    (hy : plainName y.cls = true) (hw : ws = Cond.codeWith y cc maxL ret hh :: ws')
    (body : ∀ p e s m args below meth c s₁, BodyLoose p l y (headSpec ws rm) cc maxL ret e s m args below meth c s₁ → c.maxLocals = maxL → Pc args s →
      W p l e (headSpec ws rm).room s m args below meth c s.heap [] 0 0 (vx_MQ below Qc XC args s mc ms free) (entryFrame m args maxL)) : vx_Met l y ws rm Pc Qc XC mc ms free := by
  refine MetFree.of_bodyS (code := cc) (maxLocals := maxL) (ret := ret) hy ?_ ?_
  · intro args s m h hn
    obtain ⟨m9, meth, c, hn9, h1, h2, h3, h4, -, h5, h6, -⟩ := Cond.codeWith_spec (atoms_spec (ws := ws) h _ (by rw [hw]; exact List.mem_cons_self))
    cases hn.symm.trans hn9
    exact ⟨meth, c, h1, h2, h3, h4, h5, h6⟩
  · intro p e s m args below meth c s₁ B hml hP _
    have hh0 : s₁.heap = s.heap := by rw [B.state]; rfl
    obtain ⟨t, a1, o, b1, b2, b3⟩ := body p e s m args below meth c s₁ B hml hP s₁ hh0 (Stand.of_body B)
    exact ⟨t, o, a1, b1, b2, b3⟩
/-! ===== END ===== -/

/-! ===== BEGIN a constructor that throws (launches without stack traces) ===== -/
section VXIA
variable {p : Program} {l : Launch} {e : Env} {R : Room} {s : State} {m : MethodId} {args : Array Value} {below : List Frame} {meth : Method} {c : Code} {T : State} {locs : List Loc} {cells slots : Nat}
theorem vx_callI (X : Stand p l e R s m args below meth c T locs cells slots) (hexec : p.tables.exec = Jvm.exec) {own : String} {index : Nat} {y : MethodName} {bytes : ByteArray} {maxL : Nat}
    (hown : s.vm.findClass own = some m.cls) (hy1 : y.name = "<init>") (hlink : (Cond.methodLink own index y).before args s = true) (hinst : (Cond.instanceMethod y).before args s = true)
    (hcode : (Cond.code y bytes maxL none).before args s = true) (hy : y.cls ≠ "java/lang/invoke/MethodHandle" ∧ y.cls ≠ "java/lang/invoke/VarHandle")
    {W9 : Nat} {Pre : Pt → Array Value → Prop} {Post : Pt → Array Value → Option Value → Pt → Prop} {PostX : Pt → Array Value → Addr → Pt → Prop} (hK : vx_Back l R p e below s args y 3 W9 Pre Post PostX)
    {g : JFrame} (hg : g.method = m) (hsize : g.locals.size = c.maxLocals) {a : Addr} {argsL rest : List Value} (hlen : ∀ sig, parseMethodDescriptor y.desc = some sig → argsL.length = sig.parameters.length)
    (hstack : g.stack = argsL.reverse ++ .ref a :: rest) (hW : 2 * g.monitorRoom + (rest.map fun v => v.category).sum ≤ W9) (hdg : decode c.code g.pc = .ok (.invokespecial index, 3))
    (hpre : ∀ vm₁, s.WarmedH vm₁ → Pre ⟨T.setVm vm₁, locs, cells, slots⟩ (Value.ref a :: argsL).toArray) :
    (∃ (v : Option Value) (vm₁ : Vm) (B : Pt), s.WarmedH vm₁ ∧ Stand p l e R s m args below meth c B.U B.locs B.cells B.slots ∧ Post ⟨T.setVm vm₁, locs, cells, slots⟩ (Value.ref a :: argsL).toArray v B ∧
      ∀ target, Steps p.tables e below (B.U.setTop { g with pc := g.pc + 3, stack := v.toList ++ rest }) target → Steps p.tables e below (T.setTop g) target) ∨
    (∃ (q : Addr) (vm₁ : Vm) (B : Pt), s.WarmedH vm₁ ∧ Stand p l e R s m args below meth c B.U B.locs B.cells B.slots ∧ PostX ⟨T.setVm vm₁, locs, cells, slots⟩ (Value.ref a :: argsL).toArray q B ∧
      Steps p.tables e below (T.setTop g) ((B.U.setTop { g with stack := rest }).pushFrame (.throwing q))) := by
  subst hg
  have hpl : e.platform.magicAccessors = ({} : Platform).magicAccessors := by rw [X.admits.platform]
  obtain ⟨mk, methM, cM, kP, vm₁, hnamed, hmethM, hcodeM, -, hlocalsM, -, hkP, -, hW₁, hstep₁⟩ := Steps.initColdArgs (e := e) X.here hexec X.warmed hpl hown hy1 hy hlink hinst hcode (f := g) rfl hlen hstack hdg
  have X₁ := X.noted hW₁
  rcases hK g.method meth c ⟨T.setVm vm₁, locs, cells, slots⟩ { g with stack := rest } (.invokespecial index) mk (Value.ref a :: argsL).toArray X₁ rfl hsize hdg hW (X₁.named hnamed) (hpre vm₁ X₁.warmed) with ⟨v, B, X', hpost, hsteps⟩ | ⟨q, B, X', hpost, hsteps⟩
  · exact Or.inl ⟨v, vm₁, B, X₁.warmed, X', hpost, fun target h => hstep₁ _ fun acts => by rw [doInvoke_state]; exact hsteps.trans h⟩
  · exact Or.inr ⟨q, vm₁, B, X₁.warmed, X', hpost, hstep₁ _ fun acts => by rw [doInvoke_state]; exact hsteps⟩
end VXIA
section VXIB
variable {p : Program} {l : Launch} {e : Env} {R : Room} {s : State} {m : MethodId} {args : Array Value} {below : List Frame} {meth : Method} {c : Code} {H : Heap} {locs : List Loc} {cells slots : Nat}
variable {y : MethodName} {bytes cc : ByteArray} {maxL nL mc ms n index : Nat} {ret : Option FieldType} {ws : List Cond} {rm : Room} {Pc : Array Value → State → Prop} {Qc : Array Value → State → Outcome → State → Prop} {XC : String → State → State → Prop} {free : Addr → Prop} {Ts : List Cond} {own C : String} {b : Addr} {As rest : List Value} {g : JFrame}
theorem vx_runI (S : CallFix p m c cc nL s args Ts own) (hM : vx_Met l y ws rm Pc Qc XC mc ms free) (cw : CallB R s args own index y bytes maxL none ws rm mc ms n ∧ y.name = "<init>" ∧ (Cond.instanceMethod y).before args s = true) (hp : PreS s H Pc (.ref b :: As))
    (hg : g.method = m) (hn : As.length = n) (hsize : g.locals.size = nL) (hstack : g.stack = As.reverse ++ .ref b :: rest) (hW : 2 * g.monitorRoom + (rest.map fun v => v.category).sum ≤ 8) (hdg : decode cc g.pc = .ok (.invokespecial index, 3)) (hf : cells + mc ≤ R.cells ∧ slots + ms ≤ R.slots) :
    vx_Run p l e R s m args below meth c H locs cells slots mc ms g rest (Qc (Value.ref b :: As).toArray) XC free := by
  have hK : vx_Back l R p e below s args y 3 8 (PreOf R mc ms Pc) (PostOf Qc mc ms free) (vx_Post XC mc ms free) := vx_callBack cw.1 hM hp.1
  obtain ⟨⟨-, -, -, -, -, -, hcode, -, hy, hlen, hl⟩, hy1, hin⟩ := cw
  obtain ⟨hx, hb, hml, ho, -⟩ := S
  have hPc := hp.2
  intro T hT X
  rcases vx_callI X hx (bytes := bytes) (maxL := maxL) ho hy1 hl hin hcode hy hK hg (hsize.trans hml.symm) (a := b) (argsL := As) (rest := rest) (fun sig h => hn.trans (hlen sig h)) hstack hW (by rw [hb]; exact hdg)
    (fun vm₁ hW₁ => ⟨hf.1, hf.2, hPc (T.setVm vm₁) hT hW₁⟩) with ⟨v, vm₁, ⟨U', l2, c2, s2⟩, hW₁, X', ⟨g', mk, t, L, e1, e2, hq, h1, hL, h2, h3⟩, st⟩ | ⟨q, vm₁, ⟨U', l2, c2, s2⟩, hW₁, X', ⟨g', mk, t, L, E, ce, e1, e2, hq, hce, hcv, hcl, h1, hL, h2, h3⟩, st⟩
  · dsimp only [Pt.U, Pt.locs, Pt.cells, Pt.slots] at X' e1 e2 h1 h2 h3 st
    subst h1; subst h2; subst h3
    exact Or.inl ⟨v, (T.setVm vm₁).calling g' mk (Value.ref b :: As).toArray, t, U', L, hT, X', hL, e1, e2, hq, st⟩
  · dsimp only [Pt.U, Pt.locs, Pt.cells, Pt.slots] at X' e1 e2 h1 h2 h3 st hcl
    subst h1; subst h2; subst h3
    exact Or.inr ⟨q, (T.setVm vm₁).calling g' mk (Value.ref b :: As).toArray, t, U', L, E, ce, hT, X', hL, e1, e2, hq, hce, hcv, vx_cls hW₁ hcl, st⟩
end VXIB
/-! ===== END ===== -/
/-! ===== BEGIN a private constructor of a nest mate that throws ===== -/
section VXIC
variable {p : Program} {l : Launch} {e : Env} {R : Room} {s : State} {m : MethodId} {args : Array Value} {below : List Frame} {meth : Method} {c : Code} {T : State} {locs : List Loc} {cells slots : Nat}
theorem vx_callIN (X : Stand p l e R s m args below meth c T locs cells slots) (hexec : p.tables.exec = Jvm.exec) {own : String} {index : Nat} {host : String} {y : MethodName} {bytes : ByteArray} {maxL : Nat}
    (hown : s.vm.findClass own = some m.cls) (hy1 : y.name = "<init>") (hlink : (Cond.methodLinkNest own index y host).before args s = true) (hinst : (Cond.instanceMethod y).before args s = true)
    (hcode : (Cond.code y bytes maxL none).before args s = true) (hy : y.cls ≠ "java/lang/invoke/MethodHandle" ∧ y.cls ≠ "java/lang/invoke/VarHandle")
    {W9 : Nat} {Pre : Pt → Array Value → Prop} {Post : Pt → Array Value → Option Value → Pt → Prop} {PostX : Pt → Array Value → Addr → Pt → Prop} (hK : vx_Back l R p e below s args y 3 W9 Pre Post PostX)
    {g : JFrame} (hg : g.method = m) (hsize : g.locals.size = c.maxLocals) {a : Addr} {argsL rest : List Value} (hlen : ∀ sig, parseMethodDescriptor y.desc = some sig → argsL.length = sig.parameters.length)
    (hstack : g.stack = argsL.reverse ++ .ref a :: rest) (hW : 2 * g.monitorRoom + (rest.map fun v => v.category).sum ≤ W9) (hdg : decode c.code g.pc = .ok (.invokespecial index, 3))
    (hpre : ∀ vm₁, s.WarmedH vm₁ → Pre ⟨T.setVm vm₁, locs, cells, slots⟩ (Value.ref a :: argsL).toArray) :
    (∃ (v : Option Value) (vm₁ : Vm) (B : Pt), s.WarmedH vm₁ ∧ Stand p l e R s m args below meth c B.U B.locs B.cells B.slots ∧ Post ⟨T.setVm vm₁, locs, cells, slots⟩ (Value.ref a :: argsL).toArray v B ∧
      ∀ target, Steps p.tables e below (B.U.setTop { g with pc := g.pc + 3, stack := v.toList ++ rest }) target → Steps p.tables e below (T.setTop g) target) ∨
    (∃ (q : Addr) (vm₁ : Vm) (B : Pt), s.WarmedH vm₁ ∧ Stand p l e R s m args below meth c B.U B.locs B.cells B.slots ∧ PostX ⟨T.setVm vm₁, locs, cells, slots⟩ (Value.ref a :: argsL).toArray q B ∧
      Steps p.tables e below (T.setTop g) ((B.U.setTop { g with stack := rest }).pushFrame (.throwing q))) := by
  subst hg
  have hpl : e.platform.magicAccessors = ({} : Platform).magicAccessors := by rw [X.admits.platform]
  obtain ⟨mk, methM, cM, kP, vm₁, hnamed, hmethM, hcodeM, -, hlocalsM, -, hkP, -, hW₁, hstep₁⟩ := Steps.initColdArgsNest (e := e) X.here hexec X.warmed hpl hown hy1 hy hlink hinst hcode (f := g) rfl hlen hstack hdg
  have X₁ := X.noted hW₁
  rcases hK g.method meth c ⟨T.setVm vm₁, locs, cells, slots⟩ { g with stack := rest } (.invokespecial index) mk (Value.ref a :: argsL).toArray X₁ rfl hsize hdg hW (X₁.named hnamed) (hpre vm₁ X₁.warmed) with ⟨v, B, X', hpost, hsteps⟩ | ⟨q, B, X', hpost, hsteps⟩
  · exact Or.inl ⟨v, vm₁, B, X₁.warmed, X', hpost, fun target h => hstep₁ _ fun acts => by rw [doInvoke_state]; exact hsteps.trans h⟩
  · exact Or.inr ⟨q, vm₁, B, X₁.warmed, X', hpost, hstep₁ _ fun acts => by rw [doInvoke_state]; exact hsteps⟩
end VXIC
section VXID
variable {p : Program} {l : Launch} {e : Env} {R : Room} {s : State} {m : MethodId} {args : Array Value} {below : List Frame} {meth : Method} {c : Code} {H : Heap} {locs : List Loc} {cells slots : Nat}
theorem vx_runIN {y : MethodName} {bytes cc : ByteArray} {maxL nL mc ms n index : Nat} {ws : List Cond} {rm : Room} {Pc : Array Value → State → Prop} {Qc : Array Value → State → Outcome → State → Prop} {XC : String → State → State → Prop} {free : Addr → Prop} {Ts : List Cond} {own host : String} {b : Addr} {As rest : List Value} {g : JFrame}
    (S : CallFix p m c cc nL s args Ts own) (hM : vx_Met l y ws rm Pc Qc XC mc ms free) (cw : va_CN R s args own index y host bytes maxL none ws rm mc ms n ∧ y.name = "<init>" ∧ (Cond.instanceMethod y).before args s = true) (hp : PreS s H Pc (.ref b :: As))
    (hg : g.method = m) (hn : As.length = n) (hsize : g.locals.size = nL) (hstack : g.stack = As.reverse ++ .ref b :: rest) (hW : 2 * g.monitorRoom + (rest.map fun v => v.category).sum ≤ 8) (hdg : decode cc g.pc = .ok (.invokespecial index, 3)) (hf : cells + mc ≤ R.cells ∧ slots + ms ≤ R.slots) :
    vx_Run p l e R s m args below meth c H locs cells slots mc ms g rest (Qc (Value.ref b :: As).toArray) XC free := by
  obtain ⟨⟨⟨hrc, hrs, hfr, hlo, hws, hcw⟩, hcode, hini, hy, hlen, hl⟩, hx1, hx2⟩ := cw
  have hK : vx_Back l R p e below s args y 3 8 (PreOf R mc ms Pc) (PostOf Qc mc ms free) (vx_Post XC mc ms free) := vx_back (bytes := bytes) (maxL := maxL) (ret := none) hM hp.1 hrc hrs hfr hlo hws hcw (fun a' U hW => word_at hW (Or.inl (by first | rfl | simp [Cond.onTables, Cond.keeps, Cond.steady])) hini)
  obtain ⟨hx, hb, hml, ho, -⟩ := S
  have hPc := hp.2
  intro T hT X
  rcases vx_callIN X hx (bytes := bytes) (maxL := maxL) ho hx1 hl hx2 hcode hy hK hg (hsize.trans hml.symm) (a := b) (argsL := As) (rest := rest) (fun sig h => hn.trans (hlen sig h)) hstack hW (by rw [hb]; exact hdg)
    (fun vm₁ hW₁ => ⟨hf.1, hf.2, hPc (T.setVm vm₁) hT hW₁⟩) with ⟨v, vm₁, ⟨U', l2, c2, s2⟩, hW₁, X', ⟨g', mk, t, L, e1, e2, hq, h1, hL, h2, h3⟩, st⟩ | ⟨q, vm₁, ⟨U', l2, c2, s2⟩, hW₁, X', ⟨g', mk, t, L, E, ce, e1, e2, hq, hce, hcv, hcl, h1, hL, h2, h3⟩, st⟩
  · dsimp only [Pt.U, Pt.locs, Pt.cells, Pt.slots] at X' e1 e2 h1 h2 h3 st
    subst h1; subst h2; subst h3
    exact Or.inl ⟨v, (T.setVm vm₁).calling g' mk (Value.ref b :: As).toArray, t, U', L, hT, X', hL, e1, e2, hq, st⟩
  · dsimp only [Pt.U, Pt.locs, Pt.cells, Pt.slots] at X' e1 e2 h1 h2 h3 st hcl
    subst h1; subst h2; subst h3
    exact Or.inr ⟨q, (T.setVm vm₁).calling g' mk (Value.ref b :: As).toArray, t, U', L, E, ce, hT, X', hL, e1, e2, hq, hce, hcv, vx_cls hW₁ hcl, st⟩
end VXID
/-! ===== END ===== -/
/-! ===== BEGIN a method of a class above, found by the receiver, that may throw (follows va_callVU, va_runU of this kit) ===== -/
section
variable {p : Program} {l : Launch} {e : Env} {R : Room} {s : State} {m : MethodId} {args : Array Value} {below : List Frame} {meth : Method} {c : Code} {H : Heap} {locs : List Loc} {cells slots : Nat}
theorem vx_callVU {T : State} {locs : List Loc} {cells slots : Nat} (X : Stand p l e R s m args below meth c T locs cells slots) (hexec : p.tables.exec = Jvm.exec) {own C owner : String} {index : Nat} {x y : MethodName} {bytes : ByteArray} {maxL : Nat} {ret : Option FieldType}
    (hown : s.vm.findClass own = some m.cls) (hlink : (Cond.methodLink own index x).before args s = true) (hsame : (Cond.sameMethod x.cls owner x.name x.desc).before args s = true)
    (hd0 : va_Decl s ⟨owner, x.name, x.desc⟩) (howner : owner ≠ "java/lang/invoke/MethodHandle" ∧ owner ≠ "java/lang/invoke/VarHandle")
    (hsel : (Cond.selects C x y).before args s = true) (hinst : (Cond.instanceMethod y).before args s = true) (hcode : (Cond.code y bytes maxL ret).before args s = true)
    {W : Nat} {Pre : Pt → Array Value → Prop} {Post : Pt → Array Value → Option Value → Pt → Prop} {PostX : Pt → Array Value → Addr → Pt → Prop} (hK : vx_Back l R p e below s args y 3 W Pre Post PostX)
    {b : Addr} {cellB : Cell} (hcell : T.heap[b]? = some cellB) (hobj : cellB.vm.isStatics = false) (hcls : s.vm.findClass C = some cellB.cls)
    {g : JFrame} (hg : g.method = m) (hsize : g.locals.size = c.maxLocals) {argsL rest : List Value} (hlen : ∀ sig, parseMethodDescriptor x.desc = some sig → argsL.length = sig.parameters.length)
    (hstack : g.stack = argsL.reverse ++ .ref b :: rest) (hW : 2 * g.monitorRoom + (rest.map fun v => v.category).sum ≤ W) (hdg : decode c.code g.pc = .ok (.invokevirtual index, 3))
    (hpre : ∀ vm₁, s.WarmedH vm₁ → Pre ⟨T.setVm vm₁, locs, cells, slots⟩ (Value.ref b :: argsL).toArray) :
    (∃ (v : Option Value) (vm₁ : Vm) (B : Pt), s.WarmedH vm₁ ∧ Stand p l e R s m args below meth c B.U B.locs B.cells B.slots ∧ Post ⟨T.setVm vm₁, locs, cells, slots⟩ (Value.ref b :: argsL).toArray v B ∧
      ∀ target, Steps p.tables e below (B.U.setTop { g with pc := g.pc + 3, stack := v.toList ++ rest }) target → Steps p.tables e below (T.setTop g) target) ∨
    (∃ (q : Addr) (vm₁ : Vm) (B : Pt), s.WarmedH vm₁ ∧ Stand p l e R s m args below meth c B.U B.locs B.cells B.slots ∧ PostX ⟨T.setVm vm₁, locs, cells, slots⟩ (Value.ref b :: argsL).toArray q B ∧
      Steps p.tables e below (T.setTop g) ((B.U.setTop { g with stack := rest }).pushFrame (.throwing q))) := by
  obtain ⟨r0, r, hn, hrm, hstR, hsigR⟩ := hd0
  obtain ⟨cn, ck, r1, hcn, hck, hni, hf, hn1⟩ := Cond.sameMethod_found hsame
  cases hn.symm.trans hn1
  obtain ⟨mk, methM, hnamed, hmethM, -, habM⟩ := Cond.instanceMethod_spec hinst
  obtain ⟨c2, r2, m2, q1, q2, q3, q4, kP, hkP, hkPi⟩ := Cond.selects_spec hsel
  cases hcls.symm.trans q1
  cases hf.symm.trans q2
  cases hnamed.symm.trans q3
  have hselP : selectMethod e.platform s.vm cellB.cls r0 = .method mk := by rw [Launch.admits_selectMethod X.admits]; exact q4
  obtain ⟨vm₁, X₁, hstep₁⟩ := X.invokevirtualUp hexec hown hlink hsame howner hn hrm hstR (a := b) (cell := cellB) hcell
    (fun z h => by rw [h] at hobj; cases hobj) hselP hmethM habM hkP hkPi (g := g) hg (argsL := argsL) (rest := rest) (hlen _ hsigR) hstack hdg
  rcases hK m meth c ⟨T.setVm vm₁, locs, cells, slots⟩ { g with stack := rest } (.invokevirtual index) mk (Value.ref b :: argsL).toArray X₁ hg hsize hdg hW (X₁.named hnamed) (hpre vm₁ X₁.warmed) with ⟨v, B, X', hpost, hsteps⟩ | ⟨q, B, X', hpost, hsteps⟩
  · exact Or.inl ⟨v, vm₁, B, X₁.warmed, X', hpost, fun target h => hstep₁ _ fun acts => by rw [doInvoke_state]; exact hsteps.trans h⟩
  · exact Or.inr ⟨q, vm₁, B, X₁.warmed, X', hpost, hstep₁ _ fun acts => by rw [doInvoke_state]; exact hsteps⟩
theorem vx_runU {x y : MethodName} {bytes cc : ByteArray} {maxL nL mc ms n index : Nat} {ret : Option FieldType} {ws : List Cond} {rm : Room} {Pc : Array Value → State → Prop} {Qc : Array Value → State → Outcome → State → Prop} {XC : String → State → State → Prop} {free : Addr → Prop} {Ts : List Cond} {own C owner : String} {b : Addr} {As rest : List Value} {g : JFrame}
    (S : CallFix p m c cc nL s args Ts own) (hM : vx_Met l y ws rm Pc Qc XC mc ms free) (cw : va_CU R s args own C owner index x y bytes maxL ret ws rm mc ms n) (hp : PreV s H C b Pc As)
    (hg : g.method = m) (hn : As.length = n) (hsize : g.locals.size = nL) (hstack : g.stack = As.reverse ++ .ref b :: rest) (hW : 2 * g.monitorRoom + (rest.map fun v => v.category).sum ≤ 8) (hdg : decode cc g.pc = .ok (.invokevirtual index, 3)) (hf : cells + mc ≤ R.cells ∧ slots + ms ≤ R.slots) :
    vx_Run p l e R s m args below meth c H locs cells slots mc ms g rest (Qc (Value.ref b :: As).toArray) XC free := by
  obtain ⟨hrc, hrs, hfr, hlo, hws, hcw⟩ := cw.back
  have hini := cw.init
  have hK : vx_Back l R p e below s args y 3 8 (PreOf R mc ms Pc) (PostOf Qc mc ms free) (vx_Post XC mc ms free) := vx_back (bytes := bytes) (maxL := maxL) (ret := ret) hM hp.1 hrc hrs hfr hlo hws hcw (fun a' U hW => word_at hW (Or.inl (by first | rfl | simp [Cond.onTables, Cond.keeps, Cond.steady])) hini)
  obtain ⟨hx, hb, hml, ho, -⟩ := S
  obtain ⟨-, ⟨cellB, hcB, hoB, hclB⟩, hPc⟩ := hp
  intro T hT X
  rcases vx_callVU X hx (C := C) (owner := owner) (bytes := bytes) (maxL := maxL) (ret := ret) ho cw.link cw.same cw.decl cw.notMH cw.sel cw.inst cw.code hK (by rw [hT]; exact hcB) hoB hclB hg (hsize.trans hml.symm) (argsL := As) (rest := rest) (fun sig h => hn.trans (cw.len sig h)) hstack hW (by rw [hb]; exact hdg)
    (fun vm₁ hW₁ => ⟨hf.1, hf.2, hPc (T.setVm vm₁) hT hW₁⟩) with ⟨v, vm₁, ⟨U', l2, c2, s2⟩, hW₁, X', ⟨g', mk, t, L, e1, e2, hq, h1, hL, h2, h3⟩, st⟩ | ⟨q, vm₁, ⟨U', l2, c2, s2⟩, hW₁, X', ⟨g', mk, t, L, E, ce, e1, e2, hq, hce, hcv, hcl, h1, hL, h2, h3⟩, st⟩
  · dsimp only [Pt.U, Pt.locs, Pt.cells, Pt.slots] at X' e1 e2 h1 h2 h3 st
    subst h1; subst h2; subst h3
    exact Or.inl ⟨v, (T.setVm vm₁).calling g' mk (Value.ref b :: As).toArray, t, U', L, hT, X', hL, e1, e2, hq, st⟩
  · dsimp only [Pt.U, Pt.locs, Pt.cells, Pt.slots] at X' e1 e2 h1 h2 h3 st hcl
    subst h1; subst h2; subst h3
    exact Or.inr ⟨q, (T.setVm vm₁).calling g' mk (Value.ref b :: As).toArray, t, U', L, E, ce, hT, X', hL, e1, e2, hq, hce, hcv, vx_cls hW₁ hcl, st⟩
end
/-! ===== END ===== -/
/-! ===== BEGIN super.m(..) that may throw (follows va_callSU, va_runSU) ===== -/
section
variable {p : Program} {l : Launch} {e : Env} {R : Room} {s : State} {m : MethodId} {args : Array Value} {below : List Frame} {meth : Method} {c : Code} {H : Heap} {locs : List Loc} {cells slots : Nat}
theorem vx_callSU {T : State} {locs : List Loc} {cells slots : Nat} (X : Stand p l e R s m args below meth c T locs cells slots) (hexec : p.tables.exec = Jvm.exec) {own : String} {index : Nat} {y : MethodName} {bytes : ByteArray} {maxL : Nat} {ret : Option FieldType}
    (hown : s.vm.findClass own = some m.cls) (hlink : (Cond.methodLink own index y).before args s = true) (hsame : (Cond.sameMethod y.cls y.cls y.name y.desc).before args s = true) (hsup : (Cond.superclass own y.cls).before args s = true)
    (hinst : (Cond.instanceMethod y).before args s = true) (hcode : (Cond.code y bytes maxL ret).before args s = true) (hno : y.name ≠ "<init>")
    {W : Nat} {Pre : Pt → Array Value → Prop} {Post : Pt → Array Value → Option Value → Pt → Prop} {PostX : Pt → Array Value → Addr → Pt → Prop} (hK : vx_Back l R p e below s args y 3 W Pre Post PostX)
    {b : Addr} {cellB : Cell} {kB : Class} (hcell : T.heap[b]? = some cellB) (hobj : cellB.vm.isStatics = false) (hkB : s.vm.classes[cellB.cls]? = some kB)
    {g : JFrame} (hg : g.method = m) (hsize : g.locals.size = c.maxLocals) {argsL rest : List Value} (hlen : ∀ sig, parseMethodDescriptor y.desc = some sig → argsL.length = sig.parameters.length)
    (hstack : g.stack = argsL.reverse ++ .ref b :: rest) (hW : 2 * g.monitorRoom + (rest.map fun v => v.category).sum ≤ W) (hdg : decode c.code g.pc = .ok (.invokespecial index, 3))
    (hpre : ∀ vm₁, s.WarmedH vm₁ → Pre ⟨T.setVm vm₁, locs, cells, slots⟩ (Value.ref b :: argsL).toArray) :
    (∃ (v : Option Value) (vm₁ : Vm) (B : Pt), s.WarmedH vm₁ ∧ Stand p l e R s m args below meth c B.U B.locs B.cells B.slots ∧ Post ⟨T.setVm vm₁, locs, cells, slots⟩ (Value.ref b :: argsL).toArray v B ∧
      ∀ target, Steps p.tables e below (B.U.setTop { g with pc := g.pc + 3, stack := v.toList ++ rest }) target → Steps p.tables e below (T.setTop g) target) ∨
    (∃ (q : Addr) (vm₁ : Vm) (B : Pt), s.WarmedH vm₁ ∧ Stand p l e R s m args below meth c B.U B.locs B.cells B.slots ∧ PostX ⟨T.setVm vm₁, locs, cells, slots⟩ (Value.ref b :: argsL).toArray q B ∧
      Steps p.tables e below (T.setTop g) ((B.U.setTop { g with stack := rest }).pushFrame (.throwing q))) := by
  obtain ⟨mk, methM, hnamed, hmethM, hstM, habM⟩ := Cond.instanceMethod_spec hinst
  obtain ⟨methM', cM, hmethM', -, -, -, -, -, -, hsigM⟩ := Cond.code_spec hnamed hcode
  cases hmethM.symm.trans hmethM'
  obtain ⟨ps, dk, kp, hps, hdk, hkp, hsuper, -, -, hnid⟩ := Cond.superclass_spec hown hsup
  have hn : s.methodNamed? ⟨y.cls, y.name, y.desc⟩ = some mk := hnamed
  have hpm : ps = mk.cls := Option.some.inj (hps.symm.trans (findClass_of_methodNamed hnamed))
  have hsub : s.vm.isSubclass ps mk.cls = true := by rw [hpm]; simp [Vm.isSubclass, Vm.isSubclassAux]
  obtain ⟨vm₁, X₁, hstep₁⟩ := X.invokespecialUp hexec hown hlink hsame hn hmethM hstM habM hno hdk hnid hps hsuper hsub (a := b) (cell := cellB) hcell
    (fun z h => by rw [h] at hobj; cases hobj) hkB (g := g) hg (argsL := argsL) (rest := rest) (hlen _ hsigM) hstack hdg
  rcases hK m meth c ⟨T.setVm vm₁, locs, cells, slots⟩ { g with stack := rest } (.invokespecial index) mk (Value.ref b :: argsL).toArray X₁ hg hsize hdg hW (X₁.named hnamed) (hpre vm₁ X₁.warmed) with ⟨v, B, X', hpost, hsteps⟩ | ⟨q, B, X', hpost, hsteps⟩
  · exact Or.inl ⟨v, vm₁, B, X₁.warmed, X', hpost, fun target h => hstep₁ _ (by rw [doInvoke_state]; exact hsteps.trans h)⟩
  · exact Or.inr ⟨q, vm₁, B, X₁.warmed, X', hpost, hstep₁ _ (by rw [doInvoke_state]; exact hsteps)⟩
theorem vx_runSU {y : MethodName} {bytes cc : ByteArray} {maxL nL mc ms n index : Nat} {ret : Option FieldType} {ws : List Cond} {rm : Room} {Pc : Array Value → State → Prop} {Qc : Array Value → State → Outcome → State → Prop} {XC : String → State → State → Prop} {free : Addr → Prop} {Ts : List Cond} {own C : String} {cC : ClassId} {b : Addr} {As rest : List Value} {g : JFrame}
    (hat : ClassAt s C cC) (S : CallFix p m c cc nL s args Ts own) (hM : vx_Met l y ws rm Pc Qc XC mc ms free) (cw : va_CS R s args own index y bytes maxL ret ws rm mc ms n) (hp : PreV s H C b Pc As)
    (hg : g.method = m) (hn : As.length = n) (hsize : g.locals.size = nL) (hstack : g.stack = As.reverse ++ .ref b :: rest) (hW : 2 * g.monitorRoom + (rest.map fun v => v.category).sum ≤ 8) (hdg : decode cc g.pc = .ok (.invokespecial index, 3)) (hf : cells + mc ≤ R.cells ∧ slots + ms ≤ R.slots) :
    vx_Run p l e R s m args below meth c H locs cells slots mc ms g rest (Qc (Value.ref b :: As).toArray) XC free := by
  obtain ⟨⟨hrc, hrs, hfr, hlo, hws, hcw⟩, hl1, hl2, hl3, hl4, hini, hcode, hno, hlen⟩ := cw
  have hK : vx_Back l R p e below s args y 3 8 (PreOf R mc ms Pc) (PostOf Qc mc ms free) (vx_Post XC mc ms free) := vx_back (bytes := bytes) (maxL := maxL) (ret := ret) hM hp.1 hrc hrs hfr hlo hws hcw (fun a' U hW => word_at hW (Or.inl (by first | rfl | simp [Cond.onTables, Cond.keeps, Cond.steady])) hini)
  obtain ⟨hx, hb, hml, ho, -⟩ := S
  obtain ⟨-, ⟨cellB, hcB, hoB, hclB⟩, hPc⟩ := hp
  obtain ⟨hfc, kB, hkB, -⟩ := hat
  cases hfc.symm.trans hclB
  intro T hT X
  rcases vx_callSU X hx (bytes := bytes) (maxL := maxL) (ret := ret) ho hl1 hl2 hl3 hl4 hcode hno hK (by rw [hT]; exact hcB) hoB hkB hg (hsize.trans hml.symm) (argsL := As) (rest := rest) (fun sig h => hn.trans (hlen sig h)) hstack hW (by rw [hb]; exact hdg)
    (fun vm₁ hW₁ => ⟨hf.1, hf.2, hPc (T.setVm vm₁) hT hW₁⟩) with ⟨v, vm₁, ⟨U', l2, c2, s2⟩, hW₁, X', ⟨g', mk, t, L, e1, e2, hq, h1, hL, h2, h3⟩, st⟩ | ⟨q, vm₁, ⟨U', l2, c2, s2⟩, hW₁, X', ⟨g', mk, t, L, E, ce, e1, e2, hq, hce, hcv, hcl, h1, hL, h2, h3⟩, st⟩
  · dsimp only [Pt.U, Pt.locs, Pt.cells, Pt.slots] at X' e1 e2 h1 h2 h3 st
    subst h1; subst h2; subst h3
    exact Or.inl ⟨v, (T.setVm vm₁).calling g' mk (Value.ref b :: As).toArray, t, U', L, hT, X', hL, e1, e2, hq, st⟩
  · dsimp only [Pt.U, Pt.locs, Pt.cells, Pt.slots] at X' e1 e2 h1 h2 h3 st hcl
    subst h1; subst h2; subst h3
    exact Or.inr ⟨q, (T.setVm vm₁).calling g' mk (Value.ref b :: As).toArray, t, U', L, E, ce, hT, X', hL, e1, e2, hq, hce, hcv, vx_cls hW₁ hcl, st⟩
end
/-! ===== END ===== -/
end
section
def RX0 : String := "RandomWalks$Costs"
def TX0 : u_T := fun k => match k with
  | 0 => ("RandomWalks$Costs", "stack", "[I", true)
  | _ => ("RandomWalks$Costs", "table", "[I", true)
def tyX0 : Nat → FieldType := fun k => match k with
  | 0 => .array .int
  | _ => .array .int
abbrev wsX00 : List Cond := u_ws RX0 TX0 2
theorem nmX0 : ∀ a, a < 2 → ∀ b, b < 2 → a ≠ b → (TX0 a).2.1 ≠ (TX0 b).2.1 := by decide +kernel
theorem tyX0_ok : ∀ k, k < 2 → parseFieldDescriptor (TX0 k).2.2.1 = some (tyX0 k) := by decide +kernel
abbrev cX0_init : ByteArray := prog_2_method_1_code
def yX0_init : MethodName := ⟨RX0, "<init>", "()V"⟩
abbrev cX0_costOfStep : ByteArray := prog_2_method_2_code
def yX0_costOfStep : MethodName := ⟨RX0, "costOfStep", "(LRandomWalks$Graph;II)I"⟩
abbrev cX0_fillTable : ByteArray := prog_2_method_3_code
def yX0_fillTable : MethodName := ⟨RX0, "fillTable", "(LRandomWalks$Graph;)V"⟩
abbrev cX0_tabled : ByteArray := prog_2_method_4_code
def yX0_tabled : MethodName := ⟨RX0, "tabled", "(II)I"⟩
abbrev cX0_evaluate : ByteArray := prog_2_method_5_code
def yX0_evaluate : MethodName := ⟨RX0, "evaluate", "([IIII)I"⟩
abbrev cX0_operand : ByteArray := prog_2_method_6_code
def yX0_operand : MethodName := ⟨RX0, "operand", "(IIII)I"⟩
abbrev cX0_operate : ByteArray := prog_2_method_7_code
def yX0_operate : MethodName := ⟨RX0, "operate", "(IJJ)I"⟩
def RX1 : String := "RandomWalks$Equations"
def TX1 : u_T := fun k => match k with
  | 0 => ("RandomWalks$Equations", "cells", "[J", true)
  | 1 => ("RandomWalks$Equations", "unknown", "[I", true)
  | 2 => ("RandomWalks$Equations", "noGains", "[J", true)
  | _ => ("RandomWalks$Equations", "count", "I", false)
def tyX1 : Nat → FieldType := fun k => match k with
  | 0 => .array .long
  | 1 => .array .int
  | 2 => .array .long
  | _ => .int
abbrev wsX10 : List Cond := u_ws RX1 TX1 4
theorem nmX1 : ∀ a, a < 4 → ∀ b, b < 4 → a ≠ b → (TX1 a).2.1 ≠ (TX1 b).2.1 := by decide +kernel
theorem tyX1_ok : ∀ k, k < 4 → parseFieldDescriptor (TX1 k).2.2.1 = some (tyX1 k) := by decide +kernel
abbrev cX1_init : ByteArray := prog_3_method_1_code
def yX1_init : MethodName := ⟨RX1, "<init>", "()V"⟩
abbrev cX1_meanUntil : ByteArray := prog_3_method_2_code
def yX1_meanUntil : MethodName := ⟨RX1, "meanUntil", "(LRandomWalks$Graph;II[JLRandomWalks$Fraction;)V"⟩
abbrev cX1_solve : ByteArray := prog_3_method_3_code
def yX1_solve : MethodName := ⟨RX1, "solve", "(LRandomWalks$Graph;II[JLRandomWalks$Fraction;)V"⟩
abbrev cX1_treesOf : ByteArray := prog_3_method_4_code
def yX1_treesOf : MethodName := ⟨RX1, "treesOf", "(LRandomWalks$Graph;)J"⟩
abbrev cX1_build : ByteArray := prog_3_method_5_code
def yX1_build : MethodName := ⟨RX1, "build", "(LRandomWalks$Graph;II[J)V"⟩
abbrev cX1_eliminate : ByteArray := prog_3_method_6_code
def yX1_eliminate : MethodName := ⟨RX1, "eliminate", "()Z"⟩
abbrev cX1_cell : ByteArray := prog_3_method_7_code
def yX1_cell : MethodName := ⟨RX1, "cell", "(II)J"⟩
abbrev cX1_putCell : ByteArray := prog_3_method_8_code
def yX1_putCell : MethodName := ⟨RX1, "putCell", "(IIJ)V"⟩
def RX2 : String := "RandomWalks$Fraction"
def TX2 : u_T := fun k => match k with
  | 0 => ("RandomWalks$Fraction", "above", "J", false)
  | _ => ("RandomWalks$Fraction", "below", "J", false)
def tyX2 : Nat → FieldType := fun k => match k with
  | 0 => .long
  | _ => .long
abbrev wsX20 : List Cond := u_ws RX2 TX2 2
theorem nmX2 : ∀ a, a < 2 → ∀ b, b < 2 → a ≠ b → (TX2 a).2.1 ≠ (TX2 b).2.1 := by decide +kernel
theorem tyX2_ok : ∀ k, k < 2 → parseFieldDescriptor (TX2 k).2.2.1 = some (tyX2 k) := by decide +kernel
abbrev cX2_init : ByteArray := prog_4_method_1_code
def yX2_init : MethodName := ⟨RX2, "<init>", "()V"⟩
abbrev cX2_put : ByteArray := prog_4_method_2_code
def yX2_put : MethodName := ⟨RX2, "put", "(JJ)V"⟩
abbrev cX2_part : ByteArray := prog_4_method_5_code
def yX2_part : MethodName := ⟨RX2, "part", "(Z)J"⟩
abbrev cX2_commonDivisor : ByteArray := prog_4_method_6_code
def yX2_commonDivisor : MethodName := ⟨RX2, "commonDivisor", "(JJ)J"⟩
def RX3 : String := "RandomWalks$Graph"
def TX3 : u_T := fun k => match k with
  | 0 => ("RandomWalks$Graph", "vertices", "I", false)
  | 1 => ("RandomWalks$Graph", "edges", "I", false)
  | 2 => ("RandomWalks$Graph", "absorbing", "I", false)
  | 3 => ("RandomWalks$Graph", "blocks", "I", false)
  | 4 => ("RandomWalks$Graph", "low", "[I", true)
  | 5 => ("RandomWalks$Graph", "high", "[I", true)
  | 6 => ("RandomWalks$Graph", "weights", "[I", true)
  | 7 => ("RandomWalks$Graph", "block", "[I", true)
  | 8 => ("RandomWalks$Graph", "oldBlock", "[I", true)
  | _ => ("RandomWalks$Graph", "formula", "[I", false)
def tyX3 : Nat → FieldType := fun k => match k with
  | 0 => .int
  | 1 => .int
  | 2 => .int
  | 3 => .int
  | 4 => .array .int
  | 5 => .array .int
  | 6 => .array .int
  | 7 => .array .int
  | 8 => .array .int
  | _ => .array .int
abbrev wsX30 : List Cond := u_ws RX3 TX3 10
theorem nmX3 : ∀ a, a < 10 → ∀ b, b < 10 → a ≠ b → (TX3 a).2.1 ≠ (TX3 b).2.1 := by decide +kernel
theorem tyX3_ok : ∀ k, k < 10 → parseFieldDescriptor (TX3 k).2.2.1 = some (tyX3 k) := by decide +kernel
abbrev cX3_init : ByteArray := prog_5_method_1_code
def yX3_init : MethodName := ⟨RX3, "<init>", "()V"⟩
abbrev cX3_copyFrom : ByteArray := prog_5_method_2_code
def yX3_copyFrom : MethodName := ⟨RX3, "copyFrom", "(LRandomWalks$Graph;)V"⟩
abbrev cX3_clear : ByteArray := prog_5_method_3_code
def yX3_clear : MethodName := ⟨RX3, "clear", "(I)V"⟩
abbrev cX3_weightBetween : ByteArray := prog_5_method_4_code
def yX3_weightBetween : MethodName := ⟨RX3, "weightBetween", "(II)I"⟩
abbrev cX3_putWeight : ByteArray := prog_5_method_5_code
def yX3_putWeight : MethodName := ⟨RX3, "putWeight", "(III)V"⟩
abbrev cX3_putEdge : ByteArray := prog_5_method_6_code
def yX3_putEdge : MethodName := ⟨RX3, "putEdge", "(III)V"⟩
abbrev cX3_isAbsorbing : ByteArray := prog_5_method_8_code
def yX3_isAbsorbing : MethodName := ⟨RX3, "isAbsorbing", "(I)Z"⟩
abbrev cX3_sumOfWeights : ByteArray := prog_5_method_9_code
def yX3_sumOfWeights : MethodName := ⟨RX3, "sumOfWeights", "(I)I"⟩
abbrev cX3_component : ByteArray := prog_5_method_10_code
def yX3_component : MethodName := ⟨RX3, "component", "(I)I"⟩
abbrev cX3_hasWay : ByteArray := prog_5_method_11_code
def yX3_hasWay : MethodName := ⟨RX3, "hasWay", "(II)Z"⟩
abbrev cX3_stepChance : ByteArray := prog_5_method_12_code
def yX3_stepChance : MethodName := ⟨RX3, "stepChance", "(IILRandomWalks$Fraction;)V"⟩
abbrev cX3_uniteBlocks : ByteArray := prog_5_method_13_code
def yX3_uniteBlocks : MethodName := ⟨RX3, "uniteBlocks", "(II)V"⟩
abbrev cX3_numberBlocks : ByteArray := prog_5_method_15_code
def yX3_numberBlocks : MethodName := ⟨RX3, "numberBlocks", "()V"⟩
abbrev cX3_neighbours : ByteArray := prog_5_method_16_code
def yX3_neighbours : MethodName := ⟨RX3, "neighbours", "(I)I"⟩
def RX4 : String := "RandomWalks$History"
def TX4 : u_T := fun k => match k with
  | 0 => ("RandomWalks$History", "kept", "[LRandomWalks$Graph;", true)
  | 1 => ("RandomWalks$History", "next", "I", false)
  | _ => ("RandomWalks$History", "count", "I", false)
def tyX4 : Nat → FieldType := fun k => match k with
  | 0 => .array (.object "RandomWalks$Graph")
  | 1 => .int
  | _ => .int
abbrev wsX40 : List Cond := u_ws RX4 TX4 3
theorem nmX4 : ∀ a, a < 3 → ∀ b, b < 3 → a ≠ b → (TX4 a).2.1 ≠ (TX4 b).2.1 := by decide +kernel
theorem tyX4_ok : ∀ k, k < 3 → parseFieldDescriptor (TX4 k).2.2.1 = some (tyX4 k) := by decide +kernel
abbrev cX4_init : ByteArray := prog_6_method_1_code
def yX4_init : MethodName := ⟨RX4, "<init>", "()V"⟩
abbrev cX4_keep : ByteArray := prog_6_method_2_code
def yX4_keep : MethodName := ⟨RX4, "keep", "(LRandomWalks$Graph;)V"⟩
def RX5 : String := "RandomWalks$Partition"
def TX5 : u_T := fun k => match k with
  | 0 => ("RandomWalks$Partition", "lump", "LRandomWalks$Graph;", true)
  | 1 => ("RandomWalks$Partition", "lumpGains", "[J", true)
  | _ => ("RandomWalks$Partition", "finer", "[I", true)
def tyX5 : Nat → FieldType := fun k => match k with
  | 0 => .object "RandomWalks$Graph"
  | 1 => .array .long
  | _ => .array .int
abbrev wsX50 : List Cond := u_ws RX5 TX5 3
theorem nmX5 : ∀ a, a < 3 → ∀ b, b < 3 → a ≠ b → (TX5 a).2.1 ≠ (TX5 b).2.1 := by decide +kernel
theorem tyX5_ok : ∀ k, k < 3 → parseFieldDescriptor (TX5 k).2.2.1 = some (tyX5 k) := by decide +kernel
abbrev cX5_init : ByteArray := prog_7_method_1_code
def yX5_init : MethodName := ⟨RX5, "<init>", "()V"⟩
def RX6 : String := "RandomWalks$Reader"
def TX6 : u_T := fun k => match k with
  | 0 => ("RandomWalks$Reader", "tokens", "LRandomWalks$Tokens;", true)
  | 1 => ("RandomWalks$Reader", "draft", "LRandomWalks$Graph;", true)
  | 2 => ("RandomWalks$Reader", "error", "I", false)
  | 3 => ("RandomWalks$Reader", "errorAt", "I", false)
  | 4 => ("RandomWalks$Reader", "next", "I", false)
  | 5 => ("RandomWalks$Reader", "kind", "I", false)
  | 6 => ("RandomWalks$Reader", "start", "I", false)
  | 7 => ("RandomWalks$Reader", "value", "I", false)
  | 8 => ("RandomWalks$Reader", "hasCost", "Z", false)
  | 9 => ("RandomWalks$Reader", "code", "[I", true)
  | 10 => ("RandomWalks$Reader", "codeLength", "I", false)
  | 11 => ("RandomWalks$Reader", "waiting", "[I", true)
  | _ => ("RandomWalks$Reader", "waitingCount", "I", false)
def tyX6 : Nat → FieldType := fun k => match k with
  | 0 => .object "RandomWalks$Tokens"
  | 1 => .object "RandomWalks$Graph"
  | 2 => .int
  | 3 => .int
  | 4 => .int
  | 5 => .int
  | 6 => .int
  | 7 => .int
  | 8 => .boolean
  | 9 => .array .int
  | 10 => .int
  | 11 => .array .int
  | _ => .int
abbrev wsX60 : List Cond := u_ws RX6 TX6 13
theorem nmX6 : ∀ a, a < 13 → ∀ b, b < 13 → a ≠ b → (TX6 a).2.1 ≠ (TX6 b).2.1 := by decide +kernel
theorem tyX6_ok : ∀ k, k < 13 → parseFieldDescriptor (TX6 k).2.2.1 = some (tyX6 k) := by decide +kernel
abbrev cX6_init : ByteArray := prog_8_method_1_code
def yX6_init : MethodName := ⟨RX6, "<init>", "()V"⟩
abbrev cX6_readSetup : ByteArray := prog_8_method_2_code
def yX6_readSetup : MethodName := ⟨RX6, "readSetup", "()Z"⟩
abbrev cX6_readStatement : ByteArray := prog_8_method_3_code
def yX6_readStatement : MethodName := ⟨RX6, "readStatement", "()Z"⟩
abbrev cX6_readEdge : ByteArray := prog_8_method_4_code
def yX6_readEdge : MethodName := ⟨RX6, "readEdge", "()Z"⟩
abbrev cX6_readAbsorb : ByteArray := prog_8_method_5_code
def yX6_readAbsorb : MethodName := ⟨RX6, "readAbsorb", "()Z"⟩
abbrev cX6_readJoin : ByteArray := prog_8_method_6_code
def yX6_readJoin : MethodName := ⟨RX6, "readJoin", "()Z"⟩
abbrev cX6_readCost : ByteArray := prog_8_method_7_code
def yX6_readCost : MethodName := ⟨RX6, "readCost", "()Z"⟩
abbrev cX6_readFactor : ByteArray := prog_8_method_8_code
def yX6_readFactor : MethodName := ⟨RX6, "readFactor", "()Z"⟩
abbrev cX6_emit : ByteArray := prog_8_method_9_code
def yX6_emit : MethodName := ⟨RX6, "emit", "(I)V"⟩
abbrev cX6_postpone : ByteArray := prog_8_method_10_code
def yX6_postpone : MethodName := ⟨RX6, "postpone", "(I)V"⟩
abbrev cX6_release : ByteArray := prog_8_method_11_code
def yX6_release : MethodName := ⟨RX6, "release", "(I)V"⟩
abbrev cX6_strength : ByteArray := prog_8_method_12_code
def yX6_strength : MethodName := ⟨RX6, "strength", "(I)I"⟩
abbrev cX6_operation : ByteArray := prog_8_method_13_code
def yX6_operation : MethodName := ⟨RX6, "operation", "(I)I"⟩
abbrev cX6_readVertex : ByteArray := prog_8_method_14_code
def yX6_readVertex : MethodName := ⟨RX6, "readVertex", "()Z"⟩
abbrev cX6_readNumber : ByteArray := prog_8_method_15_code
def yX6_readNumber : MethodName := ⟨RX6, "readNumber", "(II)Z"⟩
abbrev cX6_readSemicolon : ByteArray := prog_8_method_16_code
def yX6_readSemicolon : MethodName := ⟨RX6, "readSemicolon", "()Z"⟩
abbrev cX6_takeToken : ByteArray := prog_8_method_17_code
def yX6_takeToken : MethodName := ⟨RX6, "takeToken", "()V"⟩
abbrev cX6_fail : ByteArray := prog_8_method_18_code
def yX6_fail : MethodName := ⟨RX6, "fail", "(I)Z"⟩
def RX7 : String := "RandomWalks$Spread"
def TX7 : u_T := fun k => match k with
  | 0 => ("RandomWalks$Spread", "chances", "[F", true)
  | 1 => ("RandomWalks$Spread", "now", "[F", true)
  | 2 => ("RandomWalks$Spread", "next", "[F", true)
  | _ => ("RandomWalks$Spread", "chance", "LRandomWalks$Fraction;", true)
def tyX7 : Nat → FieldType := fun k => match k with
  | 0 => .array .float
  | 1 => .array .float
  | 2 => .array .float
  | _ => .object "RandomWalks$Fraction"
abbrev wsX70 : List Cond := u_ws RX7 TX7 4
theorem nmX7 : ∀ a, a < 4 → ∀ b, b < 4 → a ≠ b → (TX7 a).2.1 ≠ (TX7 b).2.1 := by decide +kernel
theorem tyX7_ok : ∀ k, k < 4 → parseFieldDescriptor (TX7 k).2.2.1 = some (tyX7 k) := by decide +kernel
abbrev cX7_init : ByteArray := prog_9_method_1_code
def yX7_init : MethodName := ⟨RX7, "<init>", "()V"⟩
abbrev cX7_chanceAfter : ByteArray := prog_9_method_2_code
def yX7_chanceAfter : MethodName := ⟨RX7, "chanceAfter", "(LRandomWalks$Graph;III)F"⟩
abbrev cX7_fillChances : ByteArray := prog_9_method_3_code
def yX7_fillChances : MethodName := ⟨RX7, "fillChances", "(LRandomWalks$Graph;)V"⟩
abbrev cX7_chanceAt : ByteArray := prog_9_method_4_code
def yX7_chanceAt : MethodName := ⟨RX7, "chanceAt", "(LRandomWalks$Graph;I)F"⟩
def RX8 : String := "RandomWalks$Stroll"
def TX8 : u_T := fun k => match k with
  | 0 => ("RandomWalks$Stroll", "drawing", "J", false)
  | 1 => ("RandomWalks$Stroll", "place", "I", false)
  | 2 => ("RandomWalks$Stroll", "seen", "I", false)
  | 3 => ("RandomWalks$Stroll", "cost", "I", false)
  | _ => ("RandomWalks$Stroll", "stepsUntilAbsorbing", "I", false)
def tyX8 : Nat → FieldType := fun k => match k with
  | 0 => .long
  | 1 => .int
  | 2 => .int
  | 3 => .int
  | _ => .int
abbrev wsX80 : List Cond := u_ws RX8 TX8 5
theorem nmX8 : ∀ a, a < 5 → ∀ b, b < 5 → a ≠ b → (TX8 a).2.1 ≠ (TX8 b).2.1 := by decide +kernel
theorem tyX8_ok : ∀ k, k < 5 → parseFieldDescriptor (TX8 k).2.2.1 = some (tyX8 k) := by decide +kernel
abbrev cX8_init : ByteArray := prog_10_method_1_code
def yX8_init : MethodName := ⟨RX8, "<init>", "()V"⟩
abbrev cX8_go : ByteArray := prog_10_method_2_code
def yX8_go : MethodName := ⟨RX8, "go", "(LRandomWalks$Graph;LRandomWalks$Costs;III)V"⟩
abbrev cX8_told : ByteArray := prog_10_method_3_code
def yX8_told : MethodName := ⟨RX8, "told", "(I)I"⟩
abbrev cX8_drawStep : ByteArray := prog_10_method_4_code
def yX8_drawStep : MethodName := ⟨RX8, "drawStep", "(LRandomWalks$Graph;)I"⟩
def RX9 : String := "RandomWalks$Tokens"
def TX9 : u_T := fun k => match k with
  | 0 => ("RandomWalks$Tokens", "text", "[B", true)
  | 1 => ("RandomWalks$Tokens", "held", "I", false)
  | 2 => ("RandomWalks$Tokens", "kinds", "[I", true)
  | 3 => ("RandomWalks$Tokens", "starts", "[I", true)
  | 4 => ("RandomWalks$Tokens", "values", "[I", true)
  | _ => ("RandomWalks$Tokens", "count", "I", false)
def tyX9 : Nat → FieldType := fun k => match k with
  | 0 => .array .byte
  | 1 => .int
  | 2 => .array .int
  | 3 => .array .int
  | 4 => .array .int
  | _ => .int
abbrev wsX90 : List Cond := u_ws RX9 TX9 6
theorem nmX9 : ∀ a, a < 6 → ∀ b, b < 6 → a ≠ b → (TX9 a).2.1 ≠ (TX9 b).2.1 := by decide +kernel
theorem tyX9_ok : ∀ k, k < 6 → parseFieldDescriptor (TX9 k).2.2.1 = some (tyX9 k) := by decide +kernel
abbrev cX9_init : ByteArray := prog_11_method_1_code
def yX9_init : MethodName := ⟨RX9, "<init>", "()V"⟩
abbrev cX9_hold : ByteArray := prog_11_method_2_code
def yX9_hold : MethodName := ⟨RX9, "hold", "(I)V"⟩
abbrev cX9_scan : ByteArray := prog_11_method_3_code
def yX9_scan : MethodName := ⟨RX9, "scan", "(I)V"⟩
abbrev cX9_scanToken : ByteArray := prog_11_method_4_code
def yX9_scanToken : MethodName := ⟨RX9, "scanToken", "(II)I"⟩
abbrev cX9_scanNumber : ByteArray := prog_11_method_5_code
def yX9_scanNumber : MethodName := ⟨RX9, "scanNumber", "(II)I"⟩
abbrev cX9_scanWord : ByteArray := prog_11_method_6_code
def yX9_scanWord : MethodName := ⟨RX9, "scanWord", "(II)I"⟩
abbrev cX9_kindOfWord : ByteArray := prog_11_method_7_code
def yX9_kindOfWord : MethodName := ⟨RX9, "kindOfWord", "(II)I"⟩
abbrev cX9_isWord : ByteArray := prog_11_method_8_code
def yX9_isWord : MethodName := ⟨RX9, "isWord", "(Ljava/lang/String;II)Z"⟩
abbrev cX9_put : ByteArray := prog_11_method_9_code
def yX9_put : MethodName := ⟨RX9, "put", "(III)V"⟩
abbrev cX9_isDigit : ByteArray := prog_11_method_10_code
def yX9_isDigit : MethodName := ⟨RX9, "isDigit", "(I)Z"⟩
abbrev cX9_isLetter : ByteArray := prog_11_method_11_code
def yX9_isLetter : MethodName := ⟨RX9, "isLetter", "(I)Z"⟩
def RX10 : String := "RandomWalks"
def TX10 : u_T := fun k => match k with
  | 0 => ("RandomWalks", "errorAt", "I", false)
  | 1 => ("RandomWalks", "graph", "LRandomWalks$Graph;", true)
  | 2 => ("RandomWalks", "history", "LRandomWalks$History;", true)
  | 3 => ("RandomWalks", "reader", "LRandomWalks$Reader;", true)
  | 4 => ("RandomWalks", "costs", "LRandomWalks$Costs;", true)
  | 5 => ("RandomWalks", "partition", "LRandomWalks$Partition;", true)
  | 6 => ("RandomWalks", "equations", "LRandomWalks$Equations;", true)
  | 7 => ("RandomWalks", "answer", "LRandomWalks$Fraction;", true)
  | 8 => ("RandomWalks", "wayBack", "LRandomWalks$Fraction;", true)
  | 9 => ("RandomWalks", "gains", "[J", true)
  | 10 => ("RandomWalks", "stroll", "LRandomWalks$Stroll;", true)
  | _ => ("RandomWalks", "spread", "LRandomWalks$Spread;", true)
def tyX10 : Nat → FieldType := fun k => match k with
  | 0 => .int
  | 1 => .object "RandomWalks$Graph"
  | 2 => .object "RandomWalks$History"
  | 3 => .object "RandomWalks$Reader"
  | 4 => .object "RandomWalks$Costs"
  | 5 => .object "RandomWalks$Partition"
  | 6 => .object "RandomWalks$Equations"
  | 7 => .object "RandomWalks$Fraction"
  | 8 => .object "RandomWalks$Fraction"
  | 9 => .array .long
  | 10 => .object "RandomWalks$Stroll"
  | _ => .object "RandomWalks$Spread"
abbrev wsX100 : List Cond := u_ws RX10 TX10 12
theorem nmX10 : ∀ a, a < 12 → ∀ b, b < 12 → a ≠ b → (TX10 a).2.1 ≠ (TX10 b).2.1 := by decide +kernel
theorem tyX10_ok : ∀ k, k < 12 → parseFieldDescriptor (TX10 k).2.2.1 = some (tyX10 k) := by decide +kernel
abbrev cX10_init : ByteArray := prog_1_method_1_code
def yX10_init : MethodName := ⟨RX10, "<init>", "()V"⟩
abbrev cX10_append : ByteArray := prog_1_method_2_code
def yX10_append : MethodName := ⟨RX10, "append", "(IIIII)I"⟩
abbrev cX10_load : ByteArray := prog_1_method_3_code
def yX10_load : MethodName := ⟨RX10, "load", "(I)I"⟩
abbrev cX10_degree : ByteArray := prog_1_method_8_code
def yX10_degree : MethodName := ⟨RX10, "degree", "(I)I"⟩
abbrev cX10_hittingTime : ByteArray := prog_1_method_11_code
def yX10_hittingTime : MethodName := ⟨RX10, "hittingTime", "(IIZ)J"⟩
abbrev cX10_hittingCost : ByteArray := prog_1_method_12_code
def yX10_hittingCost : MethodName := ⟨RX10, "hittingCost", "(IIZ)J"⟩
abbrev cX10_trees : ByteArray := prog_1_method_15_code
def yX10_trees : MethodName := ⟨RX10, "trees", "()J"⟩
abbrev cX10_absorbing : ByteArray := prog_1_method_16_code
def yX10_absorbing : MethodName := ⟨RX10, "absorbing", "()I"⟩
abbrev cX10_absorption : ByteArray := prog_1_method_17_code
def yX10_absorption : MethodName := ⟨RX10, "absorption", "(IIZ)J"⟩
abbrev cX10_after : ByteArray := prog_1_method_25_code
def yX10_after : MethodName := ⟨RX10, "after", "(III)F"⟩
abbrev cX10_walk : ByteArray := prog_1_method_26_code
def yX10_walk : MethodName := ⟨RX10, "walk", "(IIII)I"⟩
abbrev cX10_requireVertex : ByteArray := prog_1_method_36_code
def yX10_requireVertex : MethodName := ⟨RX10, "requireVertex", "(I)V"⟩
abbrev cX10_requireWay : ByteArray := prog_1_method_40_code
def yX10_requireWay : MethodName := ⟨RX10, "requireWay", "(II)V"⟩
abbrev cX10_requireAbsorbingWay : ByteArray := prog_1_method_41_code
def yX10_requireAbsorbingWay : MethodName := ⟨RX10, "requireAbsorbingWay", "(I)V"⟩
abbrev cX10_gainSteps : ByteArray := prog_1_method_43_code
def yX10_gainSteps : MethodName := ⟨RX10, "gainSteps", "()V"⟩
abbrev cX10_gainCosts : ByteArray := prog_1_method_44_code
def yX10_gainCosts : MethodName := ⟨RX10, "gainCosts", "()V"⟩
abbrev cX10_findAbsorption : ByteArray := prog_1_method_46_code
def yX10_findAbsorption : MethodName := ⟨RX10, "findAbsorption", "(II)V"⟩
abbrev cX10_countTrees : ByteArray := prog_1_method_48_code
def yX10_countTrees : MethodName := ⟨RX10, "countTrees", "()J"⟩
def RX11 : String := "RandomWalksModel"
def TX11 : u_T := fun k => match k with
  | _ => ("", "", "", false)
def tyX11 : Nat → FieldType := fun k => match k with
  | _ => .int
abbrev wsX110 : List Cond := u_ws RX11 TX11 0
theorem nmX11 : ∀ a, a < 0 → ∀ b, b < 0 → a ≠ b → (TX11 a).2.1 ≠ (TX11 b).2.1 := by decide +kernel
theorem tyX11_ok : ∀ k, k < 0 → parseFieldDescriptor (TX11 k).2.2.1 = some (tyX11 k) := by decide +kernel
def RJx145de : String := "java/io/Serializable"
def TJx145de : u_T := fun k => match k with
  | _ => ("", "", "", false)
def tyJx145de : Nat → FieldType := fun k => match k with
  | _ => .int
abbrev wsJx145de0 : List Cond := u_ws RJx145de TJx145de 0
theorem nmJx145de : ∀ a, a < 0 → ∀ b, b < 0 → a ≠ b → (TJx145de a).2.1 ≠ (TJx145de b).2.1 := by decide +kernel
theorem tyJx145de_ok : ∀ k, k < 0 → parseFieldDescriptor (TJx145de k).2.2.1 = some (tyJx145de k) := by decide +kernel
def RJ5 : String := "java/lang/AbstractStringBuilder"
def TJ5 : u_T := fun k => match k with
  | _ => ("", "", "", false)
def tyJ5 : Nat → FieldType := fun k => match k with
  | _ => .int
abbrev wsJ50 : List Cond := u_ws RJ5 TJ5 0
theorem nmJ5 : ∀ a, a < 0 → ∀ b, b < 0 → a ≠ b → (TJ5 a).2.1 ≠ (TJ5 b).2.1 := by decide +kernel
theorem tyJ5_ok : ∀ k, k < 0 → parseFieldDescriptor (TJ5 k).2.2.1 = some (tyJ5 k) := by decide +kernel
abbrev cJ5_init_d00df : ByteArray := prog_14_method_2_code
def yJ5_init_d00df : MethodName := ⟨RJ5, "<init>", "(I)V"⟩
abbrev cJ5_init_a7421 : ByteArray := prog_14_method_3_code
def yJ5_init_a7421 : MethodName := ⟨RJ5, "<init>", "(Ljava/lang/String;)V"⟩
abbrev cJ5_length_8abf5 : ByteArray := prog_14_method_6_code
def yJ5_length_8abf5 : MethodName := ⟨RJ5, "length", "()I"⟩
abbrev cJ5_ensureCapacityInternal_d00df : ByteArray := prog_14_method_9_code
def yJ5_ensureCapacityInternal_d00df : MethodName := ⟨RJ5, "ensureCapacityInternal", "(I)V"⟩
abbrev cJ5_newCapacity_0f7a4 : ByteArray := prog_14_method_10_code
def yJ5_newCapacity_0f7a4 : MethodName := ⟨RJ5, "newCapacity", "(I)I"⟩
abbrev cJ5_inflate_da8c8 : ByteArray := prog_14_method_11_code
def yJ5_inflate_da8c8 : MethodName := ⟨RJ5, "inflate", "()V"⟩
abbrev cJ5_append_cf1ce : ByteArray := prog_14_method_22_code
def yJ5_append_cf1ce : MethodName := ⟨RJ5, "append", "(Ljava/lang/String;)Ljava/lang/AbstractStringBuilder;"⟩
abbrev cJ5_appendNull_278bc : ByteArray := prog_14_method_26_code
def yJ5_appendNull_278bc : MethodName := ⟨RJ5, "appendNull", "()Ljava/lang/AbstractStringBuilder;"⟩
abbrev cJ5_append_3fe6f : ByteArray := prog_14_method_31_code
def yJ5_append_3fe6f : MethodName := ⟨RJ5, "append", "(C)Ljava/lang/AbstractStringBuilder;"⟩
abbrev cJ5_append_c97b9 : ByteArray := prog_14_method_32_code
def yJ5_append_c97b9 : MethodName := ⟨RJ5, "append", "(I)Ljava/lang/AbstractStringBuilder;"⟩
abbrev cJ5_getValue_6d5f1 : ByteArray := prog_14_method_64_code
def yJ5_getValue_6d5f1 : MethodName := ⟨RJ5, "getValue", "()[B"⟩
abbrev cJ5_isLatin1_aae02 : ByteArray := prog_14_method_68_code
def yJ5_isLatin1_aae02 : MethodName := ⟨RJ5, "isLatin1", "()Z"⟩
abbrev cJ5_inflateIfNeededFor_a7421 : ByteArray := prog_14_method_71_code
def yJ5_inflateIfNeededFor_a7421 : MethodName := ⟨RJ5, "inflateIfNeededFor", "(Ljava/lang/String;)V"⟩
abbrev cJ5_putStringAt_47b60 : ByteArray := prog_14_method_73_code
def yJ5_putStringAt_47b60 : MethodName := ⟨RJ5, "putStringAt", "(ILjava/lang/String;)V"⟩
def RJx2cfe8 : String := "java/lang/Appendable"
def TJx2cfe8 : u_T := fun k => match k with
  | _ => ("", "", "", false)
def tyJx2cfe8 : Nat → FieldType := fun k => match k with
  | _ => .int
abbrev wsJx2cfe80 : List Cond := u_ws RJx2cfe8 TJx2cfe8 0
theorem nmJx2cfe8 : ∀ a, a < 0 → ∀ b, b < 0 → a ≠ b → (TJx2cfe8 a).2.1 ≠ (TJx2cfe8 b).2.1 := by decide +kernel
theorem tyJx2cfe8_ok : ∀ k, k < 0 → parseFieldDescriptor (TJx2cfe8 k).2.2.1 = some (tyJx2cfe8 k) := by decide +kernel
def RJx9f9b0 : String := "java/lang/CharSequence"
def TJx9f9b0 : u_T := fun k => match k with
  | _ => ("", "", "", false)
def tyJx9f9b0 : Nat → FieldType := fun k => match k with
  | _ => .int
abbrev wsJx9f9b00 : List Cond := u_ws RJx9f9b0 TJx9f9b0 0
theorem nmJx9f9b0 : ∀ a, a < 0 → ∀ b, b < 0 → a ≠ b → (TJx9f9b0 a).2.1 ≠ (TJx9f9b0 b).2.1 := by decide +kernel
theorem tyJx9f9b0_ok : ∀ k, k < 0 → parseFieldDescriptor (TJx9f9b0 k).2.2.1 = some (tyJx9f9b0 k) := by decide +kernel
def RJx8e188 : String := "java/lang/Cloneable"
def TJx8e188 : u_T := fun k => match k with
  | _ => ("", "", "", false)
def tyJx8e188 : Nat → FieldType := fun k => match k with
  | _ => .int
abbrev wsJx8e1880 : List Cond := u_ws RJx8e188 TJx8e188 0
theorem nmJx8e188 : ∀ a, a < 0 → ∀ b, b < 0 → a ≠ b → (TJx8e188 a).2.1 ≠ (TJx8e188 b).2.1 := by decide +kernel
theorem tyJx8e188_ok : ∀ k, k < 0 → parseFieldDescriptor (TJx8e188 k).2.2.1 = some (tyJx8e188 k) := by decide +kernel
def RJxb160c : String := "java/lang/Comparable"
def TJxb160c : u_T := fun k => match k with
  | _ => ("", "", "", false)
def tyJxb160c : Nat → FieldType := fun k => match k with
  | _ => .int
abbrev wsJxb160c0 : List Cond := u_ws RJxb160c TJxb160c 0
theorem nmJxb160c : ∀ a, a < 0 → ∀ b, b < 0 → a ≠ b → (TJxb160c a).2.1 ≠ (TJxb160c b).2.1 := by decide +kernel
theorem tyJxb160c_ok : ∀ k, k < 0 → parseFieldDescriptor (TJxb160c k).2.2.1 = some (tyJxb160c k) := by decide +kernel
def RJ6 : String := "java/lang/Integer"
def TJ6 : u_T := fun k => match k with
  | _ => ("", "", "", false)
def tyJ6 : Nat → FieldType := fun k => match k with
  | _ => .int
abbrev wsJ60 : List Cond := u_ws RJ6 TJ6 0
theorem nmJ6 : ∀ a, a < 0 → ∀ b, b < 0 → a ≠ b → (TJ6 a).2.1 ≠ (TJ6 b).2.1 := by decide +kernel
theorem tyJ6_ok : ∀ k, k < 0 → parseFieldDescriptor (TJ6 k).2.2.1 = some (tyJ6 k) := by decide +kernel
abbrev cJ6_getChars_ba4f3 : ByteArray := prog_20_method_12_code
def yJ6_getChars_ba4f3 : MethodName := ⟨RJ6, "getChars", "(II[B)I"⟩
abbrev cJ6_stringSize_0f7a4 : ByteArray := prog_20_method_13_code
def yJ6_stringSize_0f7a4 : MethodName := ⟨RJ6, "stringSize", "(I)I"⟩
def RJ9 : String := "java/lang/Math"
def TJ9 : u_T := fun k => match k with
  | _ => ("", "", "", false)
def tyJ9 : Nat → FieldType := fun k => match k with
  | _ => .int
abbrev wsJ90 : List Cond := u_ws RJ9 TJ9 0
theorem nmJ9 : ∀ a, a < 0 → ∀ b, b < 0 → a ≠ b → (TJ9 a).2.1 ≠ (TJ9 b).2.1 := by decide +kernel
theorem tyJ9_ok : ∀ k, k < 0 → parseFieldDescriptor (TJ9 k).2.2.1 = some (tyJ9 k) := by decide +kernel
abbrev cJ9_abs_0f7a4 : ByteArray := prog_21_method_59_code
def yJ9_abs_0f7a4 : MethodName := ⟨RJ9, "abs", "(I)I"⟩
abbrev cJ9_abs_067f4 : ByteArray := prog_21_method_61_code
def yJ9_abs_067f4 : MethodName := ⟨RJ9, "abs", "(J)J"⟩
abbrev cJ9_max_7cf53 : ByteArray := prog_21_method_65_code
def yJ9_max_7cf53 : MethodName := ⟨RJ9, "max", "(II)I"⟩
abbrev cJ9_max_f86c9 : ByteArray := prog_21_method_66_code
def yJ9_max_f86c9 : MethodName := ⟨RJ9, "max", "(JJ)J"⟩
abbrev cJ9_min_7cf53 : ByteArray := prog_21_method_69_code
def yJ9_min_7cf53 : MethodName := ⟨RJ9, "min", "(II)I"⟩
abbrev cJ9_min_f86c9 : ByteArray := prog_21_method_70_code
def yJ9_min_f86c9 : MethodName := ⟨RJ9, "min", "(JJ)J"⟩
def RJxd2413 : String := "java/lang/Number"
def TJxd2413 : u_T := fun k => match k with
  | _ => ("", "", "", false)
def tyJxd2413 : Nat → FieldType := fun k => match k with
  | _ => .int
abbrev wsJxd24130 : List Cond := u_ws RJxd2413 TJxd2413 0
theorem nmJxd2413 : ∀ a, a < 0 → ∀ b, b < 0 → a ≠ b → (TJxd2413 a).2.1 ≠ (TJxd2413 b).2.1 := by decide +kernel
theorem tyJxd2413_ok : ∀ k, k < 0 → parseFieldDescriptor (TJxd2413 k).2.2.1 = some (tyJxd2413 k) := by decide +kernel
def RJ0 : String := "java/lang/String"
def TJ0 : u_T := fun k => match k with
  | 0 => ("java/lang/String", "value", "[B", true)
  | 1 => ("java/lang/String", "coder", "B", true)
  | 2 => ("java/lang/String", "hash", "I", false)
  | _ => ("java/lang/String", "hashIsZero", "Z", false)
def tyJ0 : Nat → FieldType := fun k => match k with
  | 0 => .array .byte
  | 1 => .byte
  | 2 => .int
  | _ => .boolean
abbrev wsJ00 : List Cond := u_ws RJ0 TJ0 4
theorem nmJ0 : ∀ a, a < 4 → ∀ b, b < 4 → a ≠ b → (TJ0 a).2.1 ≠ (TJ0 b).2.1 := by decide +kernel
theorem tyJ0_ok : ∀ k, k < 4 → parseFieldDescriptor (TJ0 k).2.2.1 = some (tyJ0 k) := by decide +kernel
abbrev cJ0_init_81219 : ByteArray := prog_24_method_53_code
def yJ0_init_81219 : MethodName := ⟨RJ0, "<init>", "(Ljava/lang/StringBuilder;)V"⟩
abbrev cJ0_length_8abf5 : ByteArray := prog_24_method_54_code
def yJ0_length_8abf5 : MethodName := ⟨RJ0, "length", "()I"⟩
abbrev cJ0_charAt_5068e : ByteArray := prog_24_method_56_code
def yJ0_charAt_5068e : MethodName := ⟨RJ0, "charAt", "(I)C"⟩
abbrev cJ0_getBytes_840e7 : ByteArray := prog_24_method_147_code
def yJ0_getBytes_840e7 : MethodName := ⟨RJ0, "getBytes", "([BIB)V"⟩
abbrev cJ0_init_db425 : ByteArray := prog_24_method_150_code
def yJ0_init_db425 : MethodName := ⟨RJ0, "<init>", "(Ljava/lang/AbstractStringBuilder;Ljava/lang/Void;)V"⟩
abbrev cJ0_coder_7d493 : ByteArray := prog_24_method_152_code
def yJ0_coder_7d493 : MethodName := ⟨RJ0, "coder", "()B"⟩
abbrev cJ0_isLatin1_aae02 : ByteArray := prog_24_method_154_code
def yJ0_isLatin1_aae02 : MethodName := ⟨RJ0, "isLatin1", "()Z"⟩
abbrev cJ0_checkIndex_df160 : ByteArray := prog_24_method_155_code
def yJ0_checkIndex_df160 : MethodName := ⟨RJ0, "checkIndex", "(II)V"⟩
abbrev cJ0_checkBoundsOffCount_cabcc : ByteArray := prog_24_method_157_code
def yJ0_checkBoundsOffCount_cabcc : MethodName := ⟨RJ0, "checkBoundsOffCount", "(III)I"⟩
abbrev cJ0_checkBoundsBeginEnd_23922 : ByteArray := prog_24_method_158_code
def yJ0_checkBoundsBeginEnd_23922 : MethodName := ⟨RJ0, "checkBoundsBeginEnd", "(III)V"⟩
def RJ4 : String := "java/lang/StringBuilder"
def TJ4 : u_T := fun k => match k with
  | 0 => ("java/lang/AbstractStringBuilder", "value", "[B", false)
  | 1 => ("java/lang/AbstractStringBuilder", "coder", "B", false)
  | 2 => ("java/lang/AbstractStringBuilder", "maybeLatin1", "Z", false)
  | _ => ("java/lang/AbstractStringBuilder", "count", "I", false)
def tyJ4 : Nat → FieldType := fun k => match k with
  | 0 => .array .byte
  | 1 => .byte
  | 2 => .boolean
  | _ => .int
abbrev wsJ40 : List Cond := u_ws RJ4 TJ4 4
theorem nmJ4 : ∀ a, a < 4 → ∀ b, b < 4 → a ≠ b → (TJ4 a).2.1 ≠ (TJ4 b).2.1 := by decide +kernel
theorem tyJ4_ok : ∀ k, k < 4 → parseFieldDescriptor (TJ4 k).2.2.1 = some (tyJ4 k) := by decide +kernel
abbrev cJ4_init_da8c8 : ByteArray := prog_25_method_1_code
def yJ4_init_da8c8 : MethodName := ⟨RJ4, "<init>", "()V"⟩
abbrev cJ4_init_a7421 : ByteArray := prog_25_method_3_code
def yJ4_init_a7421 : MethodName := ⟨RJ4, "<init>", "(Ljava/lang/String;)V"⟩
abbrev cJ4_append_15ec4 : ByteArray := prog_25_method_7_code
def yJ4_append_15ec4 : MethodName := ⟨RJ4, "append", "(Ljava/lang/String;)Ljava/lang/StringBuilder;"⟩
abbrev cJ4_append_cf468 : ByteArray := prog_25_method_14_code
def yJ4_append_cf468 : MethodName := ⟨RJ4, "append", "(C)Ljava/lang/StringBuilder;"⟩
abbrev cJ4_append_bf812 : ByteArray := prog_25_method_15_code
def yJ4_append_bf812 : MethodName := ⟨RJ4, "append", "(I)Ljava/lang/StringBuilder;"⟩
abbrev cJ4_toString_0e30d : ByteArray := prog_25_method_42_code
def yJ4_toString_0e30d : MethodName := ⟨RJ4, "toString", "()Ljava/lang/String;"⟩
abbrev cJ4_append_cf1ce : ByteArray := prog_25_method_80_code
def yJ4_append_cf1ce : MethodName := ⟨RJ4, "append", "(Ljava/lang/String;)Ljava/lang/AbstractStringBuilder;"⟩
abbrev cJ4_length_8abf5 : ByteArray := prog_25_method_93_code
def yJ4_length_8abf5 : MethodName := ⟨RJ4, "length", "()I"⟩
def RJ1 : String := "java/lang/StringLatin1"
def TJ1 : u_T := fun k => match k with
  | _ => ("", "", "", false)
def tyJ1 : Nat → FieldType := fun k => match k with
  | _ => .int
abbrev wsJ10 : List Cond := u_ws RJ1 TJ1 0
theorem nmJ1 : ∀ a, a < 0 → ∀ b, b < 0 → a ≠ b → (TJ1 a).2.1 ≠ (TJ1 b).2.1 := by decide +kernel
theorem tyJ1_ok : ∀ k, k < 0 → parseFieldDescriptor (TJ1 k).2.2.1 = some (tyJ1 k) := by decide +kernel
abbrev cJ1_charAt_3b067 : ByteArray := prog_26_method_2_code
def yJ1_charAt_3b067 : MethodName := ⟨RJ1, "charAt", "([BI)C"⟩
abbrev cJ1_canEncode_fc78d : ByteArray := prog_26_method_3_code
def yJ1_canEncode_fc78d : MethodName := ⟨RJ1, "canEncode", "(C)Z"⟩
abbrev cJ1_inflate_0e8fd : ByteArray := prog_26_method_50_code
def yJ1_inflate_0e8fd : MethodName := ⟨RJ1, "inflate", "([BI[BII)V"⟩
def RJ2 : String := "java/lang/StringUTF16"
def TJ2 : u_T := fun k => match k with
  | _ => ("", "", "", false)
def tyJ2 : Nat → FieldType := fun k => match k with
  | _ => .int
abbrev wsJ20 : List Cond := u_ws RJ2 TJ2 0
theorem nmJ2 : ∀ a, a < 0 → ∀ b, b < 0 → a ≠ b → (TJ2 a).2.1 ≠ (TJ2 b).2.1 := by decide +kernel
theorem tyJ2_ok : ∀ k, k < 0 → parseFieldDescriptor (TJ2 k).2.2.1 = some (tyJ2 k) := by decide +kernel
abbrev cJ2_newBytesFor_77867 : ByteArray := prog_27_method_2_code
def yJ2_newBytesFor_77867 : MethodName := ⟨RJ2, "newBytesFor", "(I)[B"⟩
abbrev cJ2_newBytesLength_0f7a4 : ByteArray := prog_27_method_3_code
def yJ2_newBytesLength_0f7a4 : MethodName := ⟨RJ2, "newBytesLength", "(I)I"⟩
abbrev cJ2_putChar_b72d1 : ByteArray := prog_27_method_4_code
def yJ2_putChar_b72d1 : MethodName := ⟨RJ2, "putChar", "([BII)V"⟩
abbrev cJ2_getChar_3b067 : ByteArray := prog_27_method_5_code
def yJ2_getChar_3b067 : MethodName := ⟨RJ2, "getChar", "([BI)C"⟩
abbrev cJ2_length_9d52b : ByteArray := prog_27_method_6_code
def yJ2_length_9d52b : MethodName := ⟨RJ2, "length", "([B)I"⟩
abbrev cJ2_coderFromArrayLen_85cad : ByteArray := prog_27_method_15_code
def yJ2_coderFromArrayLen_85cad : MethodName := ⟨RJ2, "coderFromArrayLen", "([BI)B"⟩
abbrev cJ2_compress_39247 : ByteArray := prog_27_method_17_code
def yJ2_compress_39247 : MethodName := ⟨RJ2, "compress", "([BII)[B"⟩
abbrev cJ2_compress_5af95 : ByteArray := prog_27_method_22_code
def yJ2_compress_5af95 : MethodName := ⟨RJ2, "compress", "([BI[BII)I"⟩
abbrev cJ2_putCharSB_b72d1 : ByteArray := prog_27_method_71_code
def yJ2_putCharSB_b72d1 : MethodName := ⟨RJ2, "putCharSB", "([BII)V"⟩
abbrev cJ2_getChars_46870 : ByteArray := prog_27_method_77_code
def yJ2_getChars_46870 : MethodName := ⟨RJ2, "getChars", "(III[B)I"⟩
abbrev cJ2_putCharsAt_cd4e5 : ByteArray := prog_27_method_81_code
def yJ2_putCharsAt_cd4e5 : MethodName := ⟨RJ2, "putCharsAt", "([BICCCC)I"⟩
abbrev cJ2_charAt_3b067 : ByteArray := prog_27_method_83_code
def yJ2_charAt_3b067 : MethodName := ⟨RJ2, "charAt", "([BI)C"⟩
abbrev cJ2_inflate_0e8fd : ByteArray := prog_27_method_86_code
def yJ2_inflate_0e8fd : MethodName := ⟨RJ2, "inflate", "([BI[BII)V"⟩
abbrev cJ2_getChars_ba4f3 : ByteArray := prog_27_method_89_code
def yJ2_getChars_ba4f3 : MethodName := ⟨RJ2, "getChars", "(II[B)I"⟩
abbrev cJ2_checkIndex_2214a : ByteArray := prog_27_method_91_code
def yJ2_checkIndex_2214a : MethodName := ⟨RJ2, "checkIndex", "(I[B)V"⟩
abbrev cJ2_checkBoundsBeginEnd_d044e : ByteArray := prog_27_method_93_code
def yJ2_checkBoundsBeginEnd_d044e : MethodName := ⟨RJ2, "checkBoundsBeginEnd", "(II[B)V"⟩
abbrev cJ2_checkBoundsOffCount_d044e : ByteArray := prog_27_method_94_code
def yJ2_checkBoundsOffCount_d044e : MethodName := ⟨RJ2, "checkBoundsOffCount", "(II[B)V"⟩
def RJ10 : String := "java/lang/System"
def TJ10 : u_T := fun k => match k with
  | _ => ("", "", "", false)
def tyJ10 : Nat → FieldType := fun k => match k with
  | _ => .int
abbrev wsJ100 : List Cond := u_ws RJ10 TJ10 0
theorem nmJ10 : ∀ a, a < 0 → ∀ b, b < 0 → a ≠ b → (TJ10 a).2.1 ≠ (TJ10 b).2.1 := by decide +kernel
theorem tyJ10_ok : ∀ k, k < 0 → parseFieldDescriptor (TJ10 k).2.2.1 = some (tyJ10 k) := by decide +kernel
def RJxfd54e : String := "java/lang/constant/Constable"
def TJxfd54e : u_T := fun k => match k with
  | _ => ("", "", "", false)
def tyJxfd54e : Nat → FieldType := fun k => match k with
  | _ => .int
abbrev wsJxfd54e0 : List Cond := u_ws RJxfd54e TJxfd54e 0
theorem nmJxfd54e : ∀ a, a < 0 → ∀ b, b < 0 → a ≠ b → (TJxfd54e a).2.1 ≠ (TJxfd54e b).2.1 := by decide +kernel
theorem tyJxfd54e_ok : ∀ k, k < 0 → parseFieldDescriptor (TJxfd54e k).2.2.1 = some (tyJxfd54e k) := by decide +kernel
def RJx3cf43 : String := "java/lang/constant/ConstantDesc"
def TJx3cf43 : u_T := fun k => match k with
  | _ => ("", "", "", false)
def tyJx3cf43 : Nat → FieldType := fun k => match k with
  | _ => .int
abbrev wsJx3cf430 : List Cond := u_ws RJx3cf43 TJx3cf43 0
theorem nmJx3cf43 : ∀ a, a < 0 → ∀ b, b < 0 → a ≠ b → (TJx3cf43 a).2.1 ≠ (TJx3cf43 b).2.1 := by decide +kernel
theorem tyJx3cf43_ok : ∀ k, k < 0 → parseFieldDescriptor (TJx3cf43 k).2.2.1 = some (tyJx3cf43 k) := by decide +kernel
def RJ7 : String := "java/util/Arrays"
def TJ7 : u_T := fun k => match k with
  | _ => ("", "", "", false)
def tyJ7 : Nat → FieldType := fun k => match k with
  | _ => .int
abbrev wsJ70 : List Cond := u_ws RJ7 TJ7 0
theorem nmJ7 : ∀ a, a < 0 → ∀ b, b < 0 → a ≠ b → (TJ7 a).2.1 ≠ (TJ7 b).2.1 := by decide +kernel
theorem tyJ7_ok : ∀ k, k < 0 → parseFieldDescriptor (TJ7 k).2.2.1 = some (tyJ7 k) := by decide +kernel
abbrev cJ7_fill_53178 : ByteArray := prog_30_method_103_code
def yJ7_fill_53178 : MethodName := ⟨RJ7, "fill", "([II)V"⟩
abbrev cJ7_copyOf_9075b : ByteArray := prog_30_method_121_code
def yJ7_copyOf_9075b : MethodName := ⟨RJ7, "copyOf", "([BI)[B"⟩
abbrev cJ7_copyOf_59c91 : ByteArray := prog_30_method_123_code
def yJ7_copyOf_59c91 : MethodName := ⟨RJ7, "copyOf", "([II)[I"⟩
abbrev cJ7_checkLength_df160 : ByteArray := prog_30_method_131_code
def yJ7_checkLength_df160 : MethodName := ⟨RJ7, "checkLength", "(II)V"⟩
abbrev cJ7_copyOfRange_39247 : ByteArray := prog_30_method_132_code
def yJ7_copyOfRange_39247 : MethodName := ⟨RJ7, "copyOfRange", "([BII)[B"⟩
abbrev cJ7_copyOfRangeByte_39247 : ByteArray := prog_30_method_133_code
def yJ7_copyOfRangeByte_39247 : MethodName := ⟨RJ7, "copyOfRangeByte", "([BII)[B"⟩
def RJ8 : String := "jdk/internal/util/ArraysSupport"
def TJ8 : u_T := fun k => match k with
  | _ => ("", "", "", false)
def tyJ8 : Nat → FieldType := fun k => match k with
  | _ => .int
abbrev wsJ80 : List Cond := u_ws RJ8 TJ8 0
theorem nmJ8 : ∀ a, a < 0 → ∀ b, b < 0 → a ≠ b → (TJ8 a).2.1 ≠ (TJ8 b).2.1 := by decide +kernel
theorem tyJ8_ok : ∀ k, k < 0 → parseFieldDescriptor (TJ8 k).2.2.1 = some (tyJ8 k) := by decide +kernel
abbrev cJ8_newLength_cabcc : ByteArray := prog_31_method_27_code
def yJ8_newLength_cabcc : MethodName := ⟨RJ8, "newLength", "(III)I"⟩
abbrev cJ8_hugeLength_7cf53 : ByteArray := prog_31_method_28_code
def yJ8_hugeLength_7cf53 : MethodName := ⟨RJ8, "hugeLength", "(II)I"⟩
def RJ3 : String := "jdk/internal/util/Preconditions"
def TJ3 : u_T := fun k => match k with
  | _ => ("", "", "", false)
def tyJ3 : Nat → FieldType := fun k => match k with
  | _ => .int
abbrev wsJ30 : List Cond := u_ws RJ3 TJ3 0
theorem nmJ3 : ∀ a, a < 0 → ∀ b, b < 0 → a ≠ b → (TJ3 a).2.1 ≠ (TJ3 b).2.1 := by decide +kernel
theorem tyJ3_ok : ∀ k, k < 0 → parseFieldDescriptor (TJ3 k).2.2.1 = some (tyJ3 k) := by decide +kernel
abbrev cJ3_checkIndex_8e157 : ByteArray := prog_32_method_11_code
def yJ3_checkIndex_8e157 : MethodName := ⟨RJ3, "checkIndex", "(IILjava/util/function/BiFunction;)I"⟩
abbrev cJ3_checkFromToIndex_8c36e : ByteArray := prog_32_method_12_code
def yJ3_checkFromToIndex_8c36e : MethodName := ⟨RJ3, "checkFromToIndex", "(IIILjava/util/function/BiFunction;)I"⟩
abbrev cJ3_checkFromIndexSize_8c36e : ByteArray := prog_32_method_13_code
def yJ3_checkFromIndexSize_8c36e : MethodName := ⟨RJ3, "checkFromIndexSize", "(IIILjava/util/function/BiFunction;)I"⟩
def RL : String := "RandomWalksLaw"
def TL : u_T := fun k => match k with
  | 0 => ("RandomWalksLaw", "n", "I", false)
  | 1 => ("RandomWalksLaw", "edges", "I", false)
  | 2 => ("RandomWalksLaw", "absorbing", "I", false)
  | 3 => ("RandomWalksLaw", "weights", "[[I", true)
  | 4 => ("RandomWalksLaw", "costs", "[[I", true)
  | 5 => ("RandomWalksLaw", "degrees", "[I", true)
  | 6 => ("RandomWalksLaw", "ends", "[I", true)
  | _ => ("RandomWalksLaw", "theirs", "[I", true)
def tyL : Nat → FieldType := fun k => match k with
  | 0 => .int
  | 1 => .int
  | 2 => .int
  | 3 => .array (.array .int)
  | 4 => .array (.array .int)
  | 5 => .array .int
  | 6 => .array .int
  | _ => .array .int
theorem nmL : ∀ a, a < 8 → ∀ b, b < 8 → a ≠ b → (TL a).2.1 ≠ (TL b).2.1 := by decide +kernel
theorem tyL_ok : ∀ k, k < 8 → parseFieldDescriptor (TL k).2.2.1 = some (tyL k) := by decide +kernel
abbrev cL_init : ByteArray := method_1_code
def yL_init : MethodName := ⟨RL, "<init>", "()V"⟩
abbrev cL_cell : ByteArray := method_2_code
def yL_cell : MethodName := ⟨RL, "cell", "([II)I"⟩
abbrev cL_bound : ByteArray := method_3_code
def yL_bound : MethodName := ⟨RL, "bound", "(II)I"⟩
abbrev cL_read : ByteArray := method_4_code
def yL_read : MethodName := ⟨RL, "read", "(LRandomWalks;Ljava/lang/String;)I"⟩
abbrev cL_divisor : ByteArray := method_5_code
def yL_divisor : MethodName := ⟨RL, "divisor", "(JJ)J"⟩
abbrev cL_reached : ByteArray := method_6_code
def yL_reached : MethodName := ⟨RL, "reached", "(I)[Z"⟩
abbrev cL_isMean : ByteArray := method_7_code
def yL_isMean : MethodName := ⟨RL, "isMean", "([J[J[Z[ZI)Z"⟩
abbrev cL_areHits : ByteArray := method_8_code
def yL_areHits : MethodName := ⟨RL, "areHits", "(LRandomWalks;IZ)Z"⟩
abbrev cL_isAbsorbing : ByteArray := method_9_code
def yL_isAbsorbing : MethodName := ⟨RL, "isAbsorbing", "(I)Z"⟩
abbrev cL_areAbsorptions : ByteArray := method_10_code
def yL_areAbsorptions : MethodName := ⟨RL, "areAbsorptions", "(LRandomWalks;I)Z"⟩
abbrev cL_treesOf : ByteArray := method_11_code
def yL_treesOf : MethodName := ⟨RL, "treesOf", "(II[I)J"⟩
abbrev cL_areWalks : ByteArray := method_12_code
def yL_areWalks : MethodName := ⟨RL, "areWalks", "(LRandomWalks;III)Z"⟩
abbrev cL_law : ByteArray := code
def yL_law : MethodName := ⟨RL, "law", "([I)Z"⟩
abbrev vwCl : List vw_C := [(RX0, TX0, 2), (RX1, TX1, 4), (RX2, TX2, 2), (RX3, TX3, 10), (RX4, TX4, 3), (RX5, TX5, 3), (RX6, TX6, 13), (RX7, TX7, 4), (RX8, TX8, 5), (RX9, TX9, 6), (RX10, TX10, 12), (RJ0, TJ0, 4), (RJ4, TJ4, 4), (RL, TL, 8)]
end
section
/-! ===== THE J-LAYER: the machine's judgement W over a heap told as a function (address ↦ cell), for methods told as a tuple ===== -/
abbrev Hp : Type := Nat → Option va_E
def hp (h : Hp) (a : Nat) (e : va_E) : Hp := fun q => if q = a then some e else h q
theorem hp_eq (h : Hp) (a : Nat) (e : va_E) : hp h a e a = some e := if_pos rfl
theorem hp_ne (h : Hp) {a q : Nat} (e : va_E) (n : q ≠ a) : hp h a e q = h q := if_neg n
/-- the run's fixed things: the classes and their slots, the array classes, the first new address, old addresses -/
abbrev Ev : Type := va_G × (Nat → ClassId) × Nat × (Nat → Nat)
def cA (v : Ev) (k : Nat) : ClassId := v.2.1 k
def z0 (v : Ev) : Nat := v.2.2.1
def oA (v : Ev) (k : Nat) : Nat := v.2.2.2 k
def Ar (v : Ev) : Nat → Prop := fun q => z0 v ≤ q
def ob (ci : Nat) (fs : List Value) : va_E := .inr (ci, fs)
def aI (v : Ev) (n : Nat) (f : Nat → Int32) : va_E := .inl (cA v 0, (n, .inl f))
def aJ (v : Ev) (n : Nat) (f : Nat → Int64) : va_E := .inl (cA v 1, (n, .inr (.inl f)))
def aF (v : Ev) (n : Nat) (f : Nat → UInt32) : va_E := .inl (cA v 2, (n, .inr (.inr (.inl f))))
def aB (v : Ev) (n : Nat) (f : Nat → Int32) : va_E := .inl (cA v 3, (n, .inl f))
def aZ (v : Ev) (n : Nat) (f : Nat → Int32) : va_E := .inl (cA v 4, (n, .inl f))
def aQ (v : Ev) (n : Nat) (f : Nat → Option Nat) : va_E := .inl (cA v 6, (n, .inr (.inr (.inr (.inr f)))))
def aG (v : Ev) (n : Nat) (f : Nat → Option Nat) : va_E := .inl (cA v 5, (n, .inr (.inr (.inr (.inr f)))))
def tysE (v : Ev) : List (ClassId × FieldType) := [(cA v 0, .int), (cA v 1, .long), (cA v 2, .float), (cA v 3, .byte), (cA v 4, .boolean), (cA v 5, .object "RandomWalks$Graph"), (cA v 6, .array .int)]
/-- the words that every method has: those of the tables that last -/
def big : List Cond := lw_tbl.filter goodWord
theorem big_of {w : Cond} (h : w ∈ lw_tbl) (g : goodWord w = true) : w ∈ big := List.mem_filter.mpr ⟨h, g⟩
theorem big_in {w : Cond} (h : w ∈ big) : w ∈ lw_tbl := (List.mem_filter.mp h).1
theorem big_good {w : Cond} (h : w ∈ big) : goodWord w = true := (List.mem_filter.mp h).2
theorem big_at (i : Nat) {w : Cond} (h : lw_tbl[i]? = some w) (g : goodWord w = true) : w ∈ big := big_of (List.mem_of_getElem? h) g
/-- the words that don't stand on the tables of one moment, but are kept -/
def nwk : Cond → Bool
  | .fieldLinkNest .. => true
  | .methodLinkNest .. => true
  | .castable .. => true
  | .declares _ => true
  | _ => false
theorem nwk_on {w : Cond} (h : nwk w = true) : w.onTables = true := by
  cases w <;> first | rfl | (simp [nwk] at h)
theorem nwk_warm {w : Cond} (h : nwk w = true) {s U : State} (hW : s.WarmedH U.vm) (hZ : va_Nw w s) : va_Nw w U := by
  cases w <;> first | (simp [nwk] at h; done) | exact va_Nw.warmF hW hZ | exact va_Nw.warmM hW hZ | exact va_Nw.warmC hW hZ | exact va_Nw.warmD hW hZ
/-- the texts: class, place in its pool, text -/
def stTab : List (String × Nat × String) := [("RandomWalks", 98, "the buffer does not hold as many bytes"), ("RandomWalks$Tokens", 61, "walk"), ("RandomWalks$Tokens", 67, "edge"), ("RandomWalks$Tokens", 69, "absorb"), ("RandomWalks$Tokens", 71, "join"), ("RandomWalks$Tokens", 73, "cost"), ("RandomWalks$Tokens", 75, "weight"), ("RandomWalks$Tokens", 77, "from"), ("RandomWalks$Tokens", 79, "to"), ("RandomWalksLaw", 116, "walk "), ("RandomWalksLaw", 124, ";"), ("RandomWalksLaw", 141, "edge "), ("RandomWalksLaw", 146, "absorb "), ("RandomWalksLaw", 148, "cost 3 * to - from + weight / 2;"), ("RandomWalks", 311, "there is no such vertex"), ("RandomWalks", 256, "steps is not 0 to 100"), ("RandomWalks", 320, "the vertex cannot be reached"), ("RandomWalks", 204, "the vertex is not absorbing"), ("RandomWalks", 322, "no absorbing vertex can be reached"), ("RandomWalks", 262, "steps is not 0 to 1000"), ("RandomWalks", 264, "seed is negative"), ("RandomWalks", 266, "what is not 0 to 3")]
/-- the texts whose signs are read -/
def stRead (i : Nat) : Bool := match stTab[i]? with
  | some q => q.1 == "RandomWalks$Tokens" || q.1 == "RandomWalksLaw"
  | none => false
def stText (i : Nat) : List Nat := match stTab[i]? with
  | some q => q.2.2.toList.map Char.toNat
  | none => []
def exC : List String := []
/-- the old cells, which nothing changes: COST_ONE and what it holds, what a throw reads, the texts -/
def Old (v : Ev) (U : State) (H : Heap) : Prop :=
  va_Z "RandomWalks" "COST_ONE" "[I" (.ref (oA v 0)) (Ar v) U H ∧ va_T .int (oA v 0) 1 (fun _ => .int 1) (Ar v) U H ∧
  vx_Zq Bundle.tN "UNASSIGNED_STACK" Bundle.steD (Ar v) U H ∧ vx_Zq Bundle.tN "SUPPRESSED_SENTINEL" Bundle.listD (Ar v) U H ∧
  va_Z "java/lang/String" "COMPACT_STRINGS" "Z" (.int 1) (Ar v) U H ∧ va_Zq "jdk/internal/util/Preconditions" "SIOOBE_FORMATTER" "Ljava/util/function/BiFunction;" (Ar v) U H ∧
  (∀ i : Nat, stRead i = true → va_O "java/lang/String" (oA v (i + 1)) (Ar v) U H ∧ va_OF "java/lang/String" "coder" "B" (.int 0) (oA v (i + 1)) (Ar v) U H ∧ va_OF "java/lang/String" "value" "[B" (.ref (oA v (i + 101))) (oA v (i + 1)) (Ar v) U H ∧ va_T .byte (oA v (i + 101)) (stText i).length (fun j => .int (nI ((stText i).getD j 0))) (Ar v) U H) ∧
  va_Z "java/lang/Integer" "DigitOnes" "[B" (.ref (oA v 99)) (Ar v) U H ∧ va_T .byte (oA v 99) 100 (fun j => .int (nI (48 + j % 10))) (Ar v) U H
theorem Old.moved {v : Ev} {u U : State} {H : Heap} (hvm : u.vm.Alike U.vm) (h : Old v u H) : Old v U H :=
  ⟨va_Z.moved hvm h.1, va_T.moved hvm h.2.1, vx_Zq.moved hvm h.2.2.1, vx_Zq.moved hvm h.2.2.2.1, va_Z.moved hvm h.2.2.2.2.1, va_Zq.moved hvm h.2.2.2.2.2.1,
    fun i hi => ⟨va_O.moved hvm (h.2.2.2.2.2.2.1 i hi).1, va_OF.moved hvm (h.2.2.2.2.2.2.1 i hi).2.1, va_OF.moved hvm (h.2.2.2.2.2.2.1 i hi).2.2.1, va_T.moved hvm (h.2.2.2.2.2.2.1 i hi).2.2.2⟩, va_Z.moved hvm h.2.2.2.2.2.2.2.1, va_T.moved hvm h.2.2.2.2.2.2.2.2⟩
theorem Old.kept {v : Ev} {U : State} {H H1 : Heap} (h : Old v U H) (hq : ∀ a : Nat, a < H.size → ¬ Ar v a → H1[a]? = H[a]?) : Old v U H1 :=
  ⟨va_Z.kept h.1 hq, va_T.kept h.2.1 hq, vx_Zq.kept h.2.2.1 hq, vx_Zq.kept h.2.2.2.1 hq, va_Z.kept h.2.2.2.2.1 hq, va_Zq.kept h.2.2.2.2.2.1 hq,
    fun i hi => ⟨va_O.kept (h.2.2.2.2.2.2.1 i hi).1 hq, va_OF.kept (h.2.2.2.2.2.2.1 i hi).2.1 hq, va_OF.kept (h.2.2.2.2.2.2.1 i hi).2.2.1 hq, va_T.kept (h.2.2.2.2.2.2.1 i hi).2.2.2 hq⟩, va_Z.kept h.2.2.2.2.2.2.2.1 hq, va_T.kept h.2.2.2.2.2.2.2.2 hq⟩
/-- arrays of int[] -/
def qAO (U : State) : Prop := (Cond.arrayOver (.array .int)).before #[] U = true
theorem qAO.moved {u U : State} (hvm : u.vm.Alike U.vm) (h : qAO u) : qAO U := arrayOver_alikeB hvm h
/-- what the tables say beside the words that last -/
def Tb2 (v : Ev) (U : State) : Prop :=
  (∀ w ∈ lw_tbl, nwk w = true → va_Nw w U) ∧ (∀ (i : Nat) (q : String × Nat × String), stTab[i]? = some q → vk_R q.1 q.2.1 q.2.2 (oA v (i + 1)) U) ∧
  (∀ a ∈ exC, ∀ b ∈ exC, a ≠ b → va_Nc a b U) ∧ va_AO "RandomWalks$Graph" U ∧ qAO U
theorem Tb2.warm {v : Ev} {s U : State} (hW : s.WarmedH U.vm) (h : Tb2 v s) : Tb2 v U :=
  ⟨fun w hw hk => nwk_warm hk hW (h.1 w hw hk), fun i q hq => vk_R.warm hW (h.2.1 i q hq), fun a ha b hb hab => va_Nc.moved hW.alike (h.2.2.1 a ha b hb hab), va_AO.moved hW.alike h.2.2.2.1, qAO.moved hW.alike h.2.2.2.2⟩
/-- the tables' part -/
def Bs (v : Ev) (U : State) : Prop := va_K v.1 vwCl (tysE v) U ∧ Tb2 v U ∧ Old v U U.heap
/-- the heap's part -/
def Hh (v : Ev) (h : Hp) (H : Heap) : Prop := ∀ (a : Nat) (e : va_E), h a = some e → z0 v ≤ a ∧ va_at v.1 vwCl (a, e) H
def Rp (v : Ev) (h : Hp) (top : Nat) (U : State) : Prop := Bs v U ∧ U.heap.size = top ∧ z0 v ≤ top ∧ Hh v h U.heap
theorem Hh.lt {v : Ev} {h : Hp} {H : Heap} (hh : Hh v h H) {a : Nat} {e : va_E} (ha : h a = some e) : a < H.size := (hh a e ha).2.lt
theorem Hh.set {v : Ev} {h : Hp} {H H1 : Heap} {a : Nat} {e : va_E} (hh : Hh v h H) (ha : z0 v ≤ a) (he : va_at v.1 vwCl (a, e) H1) (oq : ∀ q : Nat, q ≠ a → H1[q]? = H[q]?) : Hh v (hp h a e) H1 := by
  intro q e' hq
  by_cases hqa : q = a
  · subst hqa
    rw [hp_eq] at hq
    cases hq
    exact ⟨ha, he⟩
  · rw [hp_ne h e hqa] at hq
    exact ⟨(hh q e' hq).1, (hh q e' hq).2.kept (oq q hqa)⟩
theorem Hh.new {v : Ev} {h : Hp} {H H1 : Heap} {e : va_E} (hh : Hh v h H) (hz : z0 v ≤ H.size) (he : va_at v.1 vwCl (H.size, e) H1) (oq : ∀ q : Nat, q < H.size → H1[q]? = H[q]?) : Hh v (hp h H.size e) H1 := by
  intro q e' hq
  by_cases hqa : q = H.size
  · subst hqa
    rw [hp_eq] at hq
    cases hq
    exact ⟨hz, he⟩
  · rw [hp_ne h e hqa] at hq
    exact ⟨(hh q e' hq).1, (hh q e' hq).2.kept (oq q (hh.lt hq))⟩
/-- the locals by their places -/
def lsAt (ls : List (Option Value)) (i : Nat) : Option Value := (ls[i]?).getD none
def lvH (A : Array Slot) (n : Nat) (ls : List (Option Value)) : Prop := A.size = n ∧ lv_wf A ∧ ∀ (i : Nat) (w : Value), ls[i]? = some (some w) → A[i]? = some (.val w)
/-- the list of what is known, as the kit's rows take it -/
def lvL : Nat → List (Option Value) → List (Nat × Value)
  | _, [] => []
  | i, none :: t => lvL (i + 1) t
  | i, some w :: t => (i, w) :: lvL (i + 1) t
theorem lvL_mem : ∀ (ls : List (Option Value)) (b i : Nat) (w : Value), (i, w) ∈ lvL b ls ↔ b ≤ i ∧ ls[i - b]? = some (some w)
  | [], b, i, w => by simp [lvL]
  | none :: t, b, i, w => by
    rw [lvL, lvL_mem t (b + 1) i w]
    by_cases h : b = i
    · subst h
      constructor
      · rintro ⟨h1, h2⟩
        omega
      · rintro ⟨h1, h2⟩
        simp at h2
    · constructor
      · rintro ⟨h1, h2⟩
        refine ⟨by omega, ?_⟩
        rw [show i - b = (i - (b + 1)) + 1 by omega, List.getElem?_cons_succ]
        exact h2
      · rintro ⟨h1, h2⟩
        refine ⟨by omega, ?_⟩
        rw [show i - b = (i - (b + 1)) + 1 by omega, List.getElem?_cons_succ] at h2
        exact h2
  | some x :: t, b, i, w => by
    rw [lvL, List.mem_cons, lvL_mem t (b + 1) i w]
    by_cases h : b = i
    · subst h
      constructor
      · rintro (h1 | ⟨h1, h2⟩)
        · cases h1
          simp
        · omega
      · rintro ⟨h1, h2⟩
        simp at h2
        subst h2
        exact Or.inl rfl
    · constructor
      · rintro (h1 | ⟨h1, h2⟩)
        · cases h1
          exact absurd rfl h
        · refine ⟨by omega, ?_⟩
          rw [show i - b = (i - (b + 1)) + 1 by omega, List.getElem?_cons_succ]
          exact h2
      · rintro ⟨h1, h2⟩
        refine Or.inr ⟨by omega, ?_⟩
        rw [show i - b = (i - (b + 1)) + 1 by omega, List.getElem?_cons_succ] at h2
        exact h2
theorem lvH.has {A : Array Slot} {n : Nat} {ls : List (Option Value)} (h : lvH A n ls) : lv_has A n (lvL 0 ls) := by
  refine ⟨h.1, h.2.1, fun q hq => ?_⟩
  obtain ⟨i, w⟩ := q
  exact h.2.2 i w ((lvL_mem ls 0 i w).mp hq).2
theorem lvH.of {A : Array Slot} {n : Nat} {l : List (Nat × Value)} {ls : List (Option Value)} (h : lv_has A n l) (hs : ∀ (i : Nat) (w : Value), ls[i]? = some (some w) → (i, w) ∈ l) : lvH A n ls :=
  ⟨h.1, h.2.1, fun i w hw => h.2.2 (i, w) (hs i w hw)⟩
theorem lvH.at {A : Array Slot} {n : Nat} {ls : List (Option Value)} (h : lvH A n ls) {i : Nat} {w : Value} (hw : ls[i]? = some (some w)) : A[i]? = some (.val w) := h.2.2 i w hw
def isTwo : Option Value → Bool
  | some w => w.category == 2
  | none => false
/-- what lies ahead of a stored local, if it is a long, is gone -/
def lsCut : Nat → List (Option Value) → List (Option Value)
  | 1, x :: t => (if isTwo x then none else x) :: t
  | i + 2, x :: t => x :: lsCut (i + 1) t
  | _, l => l
def ls1 (ls : List (Option Value)) (i : Nat) (w : Value) : List (Option Value) := (lsCut i ls).set i (some w)
def ls2 (ls : List (Option Value)) (i : Nat) (w : Value) : List (Option Value) := ((lsCut i ls).set i (some w)).set (i + 1) none
theorem lsCut_at : ∀ (i : Nat) (ls : List (Option Value)) (j : Nat) (w : Value), (lsCut i ls)[j]? = some (some w) → ls[j]? = some (some w) ∧ (j + 1 = i → w.category ≠ 2)
  | 0, ls, j, w, h => by
    cases ls <;> exact ⟨h, fun q => by omega⟩
  | 1, [], j, w, h => by simp [lsCut] at h
  | 1, x :: t, j, w, h => by
    rw [lsCut] at h
    cases j with
    | zero =>
      simp only [List.getElem?_cons_zero, Option.some.injEq] at h ⊢
      split at h
      · cases h
      · next hx =>
        subst h
        refine ⟨rfl, fun _ hc => hx ?_⟩
        simp [isTwo, hc]
    | succ j => exact ⟨h, fun q => by omega⟩
  | i + 2, [], j, w, h => by simp [lsCut] at h
  | i + 2, x :: t, j, w, h => by
    rw [lsCut] at h
    cases j with
    | zero => exact ⟨h, fun q => by omega⟩
    | succ j =>
      rw [List.getElem?_cons_succ] at h
      obtain ⟨h1, h2⟩ := lsCut_at (i + 1) t j w h
      exact ⟨by rw [List.getElem?_cons_succ]; exact h1, fun q => h2 (by omega)⟩
theorem ls1_mem {ls : List (Option Value)} {i : Nat} {x : Value} (j : Nat) (w : Value) (h : (ls1 ls i x)[j]? = some (some w)) : (j, w) ∈ ((i, x) :: (lvL 0 ls).filter (fun q => !(q.1 == i) && !(q.1 + 1 == i && q.2.category == 2))) := by
  unfold ls1 at h
  by_cases hj : i = j
  · subst hj
    rw [List.getElem?_set] at h
    simp only [if_true] at h
    split at h
    · cases h
      exact List.mem_cons_self
    · cases h
  · rw [List.getElem?_set_ne hj] at h
    obtain ⟨h1, h2⟩ := lsCut_at i ls j w h
    refine List.mem_cons_of_mem _ (List.mem_filter.mpr ⟨(lvL_mem ls 0 j w).mpr ⟨Nat.zero_le _, h1⟩, ?_⟩)
    have e1 : (j == i) = false := by simp; omega
    by_cases hji : j + 1 = i
    · have e2 : (w.category == 2) = false := by simp [h2 hji]
      simp [e1, e2]
    · have e2 : (j + 1 == i) = false := by simp [hji]
      simp [e1, e2]
theorem ls2_mem {ls : List (Option Value)} {i : Nat} {x : Value} (j : Nat) (w : Value) (h : (ls2 ls i x)[j]? = some (some w)) : (j, w) ∈ ((i, x) :: (lvL 0 ls).filter (fun q => !(q.1 == i) && (!(q.1 == i + 1) && !(q.1 + 1 == i && q.2.category == 2)))) := by
  unfold ls2 at h
  by_cases hj2 : i + 1 = j
  · subst hj2
    rw [List.getElem?_set] at h
    simp only [if_true] at h
    split at h <;> cases h
  · rw [List.getElem?_set_ne hj2] at h
    by_cases hj : i = j
    · subst hj
      rw [List.getElem?_set] at h
      simp only [if_true] at h
      split at h
      · cases h
        exact List.mem_cons_self
      · cases h
    · rw [List.getElem?_set_ne hj] at h
      obtain ⟨h1, h2⟩ := lsCut_at i ls j w h
      refine List.mem_cons_of_mem _ (List.mem_filter.mpr ⟨(lvL_mem ls 0 j w).mpr ⟨Nat.zero_le _, h1⟩, ?_⟩)
      have e1 : (j == i) = false := by simp; omega
      have e3 : (j == i + 1) = false := by simp; omega
      by_cases hji : j + 1 = i
      · have e2 : (w.category == 2) = false := by simp [h2 hji]
        simp [e1, e2, e3]
      · have e2 : (j + 1 == i) = false := by simp [hji]
        simp [e1, e2, e3]
/-- a method: name, code, locals, answer, table of handlers -/
abbrev Md : Type := MethodName × ByteArray × Nat × Option FieldType × List (Nat × Nat × Nat × Nat)
def cw (M : Md) : Cond := match M.2.2.2.2 with
  | [] => .code M.1 M.2.1 M.2.2.1 M.2.2.2.1
  | hh => .codeWith M.1 M.2.1 M.2.2.1 M.2.2.2.1 hh
def rmOf (d mc ms : Nat) : Room := { frames := d, cells := mc, slots := ms, locals := 60 * d }
def Fx (v : Ev) (M : Md) (t0 : Nat) (p : Program) (l : Launch) (s : State) (m : MethodId) (args : Array Value) (meth : Method) (c : Code) : Prop :=
  p.tables.exec = Jvm.exec ∧ c.code = M.2.1 ∧ c.maxLocals = M.2.2.1 ∧ s.vm.findClass M.1.cls = some m.cls ∧ (∀ w ∈ big, w.before args s = true) ∧ meth.sig.returnType = M.2.2.2.1 ∧ meth.locks = false ∧ l.stackTraces = false ∧ Bs v s ∧ s.heap.size = t0 ∧ z0 v ≤ t0 ∧ meth.name = M.1.name ∧ c.exceptionTable.toList = tableOf M.2.2.2.2
/-- the judgement: at pc, with locals ls, stack st, heap h up to top -/
def J (v : Ev) (M : Md) (R : Room) (K : List Frame → Array Value → State → State → Prop) (t0 cells slots : Nat) (h : Hp) (top pc : Nat) (ls : List (Option Value)) (st : List Value) : Prop :=
  ∀ (p : Program) (l : Launch) (e : Env) (s : State) (m : MethodId) (args : Array Value) (below : List Frame) (meth : Method) (c : Code), Fx v M t0 p l s m args meth c →
    ∀ (H : Heap) (locs : List Loc) (A : Array Slot), H.size = top → Hh v h H → va_S (Ar v) s.heap H locs → lvH A M.2.2.1 ls →
      W p l e R s m args below meth c H locs cells slots (K below args s) (F0 m pc A st)
def Qc (v : Ev) (Qr : Option Value → Hp → Nat → Prop) : Array Value → State → Outcome → State → Prop := fun _ st oc t =>
  (∃ (r : Option Value) (h' : Hp) (top' : Nat), oc = .returned r ∧ Qr r h' top' ∧ t.heap.size = top' ∧ Hh v h' t.heap) ∧ va_F (Ar v) st t
def XC (v : Ev) (Qx : String → Hp → Nat → Prop) : String → State → State → Prop := fun E st t =>
  (∃ (h' : Hp) (top' : Nat), Qx E h' top' ∧ t.heap.size = top' ∧ Hh v h' t.heap) ∧ va_F (Ar v) st t
def KM (v : Ev) (Qr : Option Value → Hp → Nat → Prop) (Qx : String → Hp → Nat → Prop) (mc ms : Nat) : List Frame → Array Value → State → State → Prop :=
  fun below args s => vx_MQ below (Qc v Qr) (XC v Qx) args s mc ms (Ar v)
/-- a method's contract -/
def Cal (v : Ev) (M : Md) (d mc ms : Nat) (av : List Value) (h : Hp) (top : Nat) (Qr : Option Value → Hp → Nat → Prop) (Qx : String → Hp → Nat → Prop) : Prop :=
  ∀ l : Launch, l.stackTraces = false → vx_Met l M.1 (cw M :: big) (rmOf d mc ms) (va_Pc av (Rp v h top)) (Qc v Qr) (XC v Qx) mc ms (Ar v)
def noX : String → Hp → Nat → Prop := fun _ _ _ => False
/-- the locals at the entry -/
def eL (n : Nat) (av : List Value) : List (Option Value) := (av.flatMap fun w => if w.category = 2 then [some w, none] else [some w]) ++ List.replicate (n - (lg_sl av).length) none
theorem eL_mem : ∀ (av : List Value) (b i : Nat) (w : Value), (av.flatMap fun w => if w.category = 2 then [some w, none] else [some w])[i]? = some (some w) → (b + i, w) ∈ lv_args b av
  | [], b, i, w, h => by simp at h
  | x :: t, b, i, w, h => by
    rw [lv_args]
    rw [List.flatMap_cons] at h
    by_cases hx : x.category = 2
    · rw [if_pos hx] at h ⊢
      match i, h with
      | 0, h => simp at h; subst h; exact List.mem_cons_self
      | 1, h => simp at h
      | i + 2, h =>
        have h2 := eL_mem t (b + 2) i w (by simpa using h)
        rw [show b + (i + 2) = b + 2 + i by omega]
        exact List.mem_cons_of_mem _ h2
    · rw [if_neg hx] at h ⊢
      match i, h with
      | 0, h => simp at h; subst h; exact List.mem_cons_self
      | i + 1, h =>
        have h2 := eL_mem t (b + 1) i w (by simpa using h)
        rw [show b + (i + 1) = b + 1 + i by omega]
        exact List.mem_cons_of_mem _ h2
theorem eL_entry (av : List Value) {n : Nat} (hn : (lg_sl av).length ≤ n) : lvH ((lg_sl av ++ List.replicate (n - (lg_sl av).length) Slot.unset).toArray) n (eL n av) := by
  refine lvH.of (lv_entry av hn) (fun i w hw => ?_)
  unfold eL at hw
  rw [List.getElem?_append] at hw
  split at hw
  · have h1 := eL_mem av 0 i w hw
    rwa [Nat.zero_add] at h1
  · rw [List.getElem?_replicate] at hw
    split at hw <;> simp at hw
theorem Bs.warm {v : Ev} {s t : State} (hW : s.WarmedH t.vm) (h : Bs v s) (hF : va_F (Ar v) s t) : Bs v t :=
  ⟨h.1.moved hW.alike, h.2.1.warm hW, (h.2.2.moved hW.alike).kept fun a h1 h2 => hF.2 a h1 h2⟩
/-- the same tables and heap -/
theorem Bs.same {v : Ev} {s t : State} (hv : t.vm = s.vm) (hh : t.heap = s.heap) (h : Bs v s) : Bs v t :=
  h.warm (by rw [hv]; exact State.WarmedH.refl s) ⟨by rw [hh]; exact Nat.le_refl _, fun q _ _ => by rw [hh]⟩
theorem Rp.blind {v : Ev} {h : Hp} {top : Nat} {av : List Value} : FrameBlind (va_Pc av (Rp v h top)) :=
  fun a U g mk q => ⟨q.1, Bs.same (s := U) rfl rfl q.2.1, q.2.2.1, q.2.2.2.1, q.2.2.2.2⟩
/-- a contract out of the judgement at the entry -/
theorem Cal.ofJ {v : Ev} {M : Md} {d mc ms : Nat} {av : List Value} {h : Hp} {top : Nat} {Qr : Option Value → Hp → Nat → Prop} {Qx : String → Hp → Nat → Prop}
    (hpl : plainName M.1.cls = true) (hhh : M.2.2.2.2 = []) (hn : (lg_sl av).length ≤ M.2.2.1) (k : z0 v ≤ top → J v M (rmOf d mc ms) (KM v Qr Qx mc ms) top 0 0 h top 0 (eL M.2.2.1 av) []) : Cal v M d mc ms av h top Qr Qx := by
  intro l hl
  refine vx_ofW (ret := M.2.2.2.1) (cc := M.2.1) (maxL := M.2.2.1) (ws' := big) hpl (by unfold cw; rw [hhh]) ?_
  intro p e s m args below meth c s₁ B hml htb hP
  obtain ⟨rfl, hB, hz, hz0, hH⟩ := hP
  have hts : ∀ w ∈ big, w.before av.toArray s = true := fun w hw => atoms_spec (ws := cw M :: big) B.pre w (List.mem_cons_of_mem _ hw)
  have htab : c.exceptionTable.toList = tableOf M.2.2.2.2 := by
    rw [hhh]
    have : c.exceptionTable.toList = [] := by
      cases hc : c.exceptionTable.toList with
      | nil => rfl
      | cons x t => exact (htb x (by rw [hc]; exact List.mem_cons_self)).elim
    rw [this]
    rfl
  have hF : Fx v M top p l s m av.toArray meth c := ⟨B.exec, B.bytes, hml, findClass_of_methodNamed B.named, hts, B.returns, B.notSynchronized, hl, hB, hz, hz0, (name_of_methodNamed B.named B.method).1, htab⟩
  rw [lg_entry_eq]
  exact k hz0 p l e s m av.toArray below meth c hF s.heap [] _ hz hH va_S.rf (eL_entry av hn)
theorem Cal.ofJH {v : Ev} {M : Md} {d mc ms : Nat} {av : List Value} {h : Hp} {top : Nat} {Qr : Option Value → Hp → Nat → Prop} {Qx : String → Hp → Nat → Prop}
    (hpl : plainName M.1.cls = true) {x : Nat × Nat × Nat × Nat} {hh : List (Nat × Nat × Nat × Nat)} (hhh : M.2.2.2.2 = x :: hh) (hn : (lg_sl av).length ≤ M.2.2.1) (k : z0 v ≤ top → J v M (rmOf d mc ms) (KM v Qr Qx mc ms) top 0 0 h top 0 (eL M.2.2.1 av) []) : Cal v M d mc ms av h top Qr Qx := by
  intro l hl
  have hcw : cw M = Cond.codeWith M.1 M.2.1 M.2.2.1 M.2.2.2.1 M.2.2.2.2 := by unfold cw; rw [hhh]
  refine vx_ofWH (ret := M.2.2.2.1) (cc := M.2.1) (maxL := M.2.2.1) (ws' := big) (hh := M.2.2.2.2) hpl (by rw [hcw]) ?_
  intro p e s m args below meth c s₁ B hml hP
  obtain ⟨rfl, hB, hz, hz0, hH⟩ := hP
  have hts : ∀ w ∈ big, w.before av.toArray s = true := fun w hw => atoms_spec (ws := cw M :: big) B.pre w (List.mem_cons_of_mem _ hw)
  have htab : c.exceptionTable.toList = tableOf M.2.2.2.2 := vx_table (x := M.1) (y := M.1) B (by rw [← hcw]; exact atoms_spec (ws := cw M :: big) B.pre _ List.mem_cons_self)
  have hF : Fx v M top p l s m av.toArray meth c := ⟨B.exec, B.bytes, hml, findClass_of_methodNamed B.named, hts, B.returns, B.notSynchronized, hl, hB, hz, hz0, (name_of_methodNamed B.named B.method).1, htab⟩
  rw [lg_entry_eq]
  exact k hz0 p l e s m av.toArray below meth c hF s.heap [] _ hz hH va_S.rf (eL_entry av hn)
end
section
/-! ===== J rows: instructions without the heap (written by wip/p37/gen_rows.py) ===== -/
section JR
variable {v : Ev} {M : Md} {R : Room} {K : List Frame → Array Value → State → State → Prop} {t0 cells slots : Nat} {h : Hp} {top pc : Nat} {ls : List (Option Value)} {st : List Value}
theorem r_iconst {n : Int} {w : Int32} (d : decode M.2.1 pc = .ok (.iconst n, 1)) (hv : Int32.ofInt n = w) (k : J v M R K t0 cells slots h top (pc + 1) ls (.int w :: st)) : J v M R K t0 cells slots h top pc ls (st) := by
  intro p l e s m args below meth c F H locs A hz hH hS hl
  exact lv_iconst F.1 F.2.1 d hv (k p l e s m args below meth c F H locs A hz hH hS hl)
theorem r_bipush {n : Int} {w : Int32} (d : decode M.2.1 pc = .ok (.bipush n, 2)) (hv : (Int8.ofInt n).toInt32 = w) (k : J v M R K t0 cells slots h top (pc + 2) ls (.int w :: st)) : J v M R K t0 cells slots h top pc ls (st) := by
  intro p l e s m args below meth c F H locs A hz hH hS hl
  exact lv_bipush F.1 F.2.1 d hv (k p l e s m args below meth c F H locs A hz hH hS hl)
theorem r_sipush {n : Int} {w : Int32} (d : decode M.2.1 pc = .ok (.sipush n, 3)) (hv : (Int16.ofInt n).toInt32 = w) (k : J v M R K t0 cells slots h top (pc + 3) ls (.int w :: st)) : J v M R K t0 cells slots h top pc ls (st) := by
  intro p l e s m args below meth c F H locs A hz hH hS hl
  exact lv_sipush F.1 F.2.1 d hv (k p l e s m args below meth c F H locs A hz hH hS hl)
theorem r_lconst {n : Fin 2} {w : Int64} (d : decode M.2.1 pc = .ok (.lconst n, 1)) (hv : Int64.ofNat (n : Nat) = w) (k : J v M R K t0 cells slots h top (pc + 1) ls (.long w :: st)) : J v M R K t0 cells slots h top pc ls (st) := by
  intro p l e s m args below meth c F H locs A hz hH hS hl
  exact lv_lconst F.1 F.2.1 d hv (k p l e s m args below meth c F H locs A hz hH hS hl)
theorem r_fconst0  (d : decode M.2.1 pc = .ok (.fconst 0, 1))  (k : J v M R K t0 cells slots h top (pc + 1) ls (.float FP.fconst0 :: st)) : J v M R K t0 cells slots h top pc ls (st) := by
  intro p l e s m args below meth c F H locs A hz hH hS hl
  exact lv_fconst0 F.1 F.2.1 d  (k p l e s m args below meth c F H locs A hz hH hS hl)
theorem r_fconst1  (d : decode M.2.1 pc = .ok (.fconst 1, 1))  (k : J v M R K t0 cells slots h top (pc + 1) ls (.float FP.fconst1 :: st)) : J v M R K t0 cells slots h top pc ls (st) := by
  intro p l e s m args below meth c F H locs A hz hH hS hl
  exact lv_fconst1 F.1 F.2.1 d  (k p l e s m args below meth c F H locs A hz hH hS hl)
theorem r_iload_n {k0 : Fin 4} {i : Nat} {x : Int32} (d : decode M.2.1 pc = .ok (.iload_n k0, 1)) (hi : (k0 : Nat) = i) (hx : ls[i]? = some (some (.int x))) (k : J v M R K t0 cells slots h top (pc + 1) ls (.int x :: st)) : J v M R K t0 cells slots h top pc ls (st) := by
  intro p l e s m args below meth c F H locs A hz hH hS hl
  exact lv_iload_n F.1 F.2.1 d hi (hl.at hx) (k p l e s m args below meth c F H locs A hz hH hS hl)
theorem r_iload {i : Nat} {x : Int32} (d : decode M.2.1 pc = .ok (.iload i, 2)) (hx : ls[i]? = some (some (.int x))) (k : J v M R K t0 cells slots h top (pc + 2) ls (.int x :: st)) : J v M R K t0 cells slots h top pc ls (st) := by
  intro p l e s m args below meth c F H locs A hz hH hS hl
  exact lv_iload F.1 F.2.1 d (hl.at hx) (k p l e s m args below meth c F H locs A hz hH hS hl)
theorem r_istore_n {k0 : Fin 4} {i : Nat} {x : Int32} (d : decode M.2.1 pc = .ok (.istore_n k0, 1)) (hi : (k0 : Nat) = i) (hn : i < M.2.2.1) (k : J v M R K t0 cells slots h top (pc + 1) (ls1 ls i (.int x)) st) : J v M R K t0 cells slots h top pc ls (.int x :: st) := by
  intro p l e s m args below meth c F H locs A hz hH hS hl
  exact lv_istore_n F.1 F.2.1 d hi hl.has hn rfl (fun A1 h1 => k p l e s m args below meth c F H locs A1 hz hH hS (lvH.of h1 (fun j w hw => ls1_mem j w hw)))
theorem r_istore {i : Nat} {x : Int32} (d : decode M.2.1 pc = .ok (.istore i, 2)) (hn : i < M.2.2.1) (k : J v M R K t0 cells slots h top (pc + 2) (ls1 ls i (.int x)) st) : J v M R K t0 cells slots h top pc ls (.int x :: st) := by
  intro p l e s m args below meth c F H locs A hz hH hS hl
  exact lv_istore F.1 F.2.1 d hl.has hn rfl (fun A1 h1 => k p l e s m args below meth c F H locs A1 hz hH hS (lvH.of h1 (fun j w hw => ls1_mem j w hw)))
theorem r_lload_n {k0 : Fin 4} {i : Nat} {x : Int64} (d : decode M.2.1 pc = .ok (.lload_n k0, 1)) (hi : (k0 : Nat) = i) (hx : ls[i]? = some (some (.long x))) (k : J v M R K t0 cells slots h top (pc + 1) ls (.long x :: st)) : J v M R K t0 cells slots h top pc ls (st) := by
  intro p l e s m args below meth c F H locs A hz hH hS hl
  exact lv_lload_n F.1 F.2.1 d hi (hl.at hx) (k p l e s m args below meth c F H locs A hz hH hS hl)
theorem r_lload {i : Nat} {x : Int64} (d : decode M.2.1 pc = .ok (.lload i, 2)) (hx : ls[i]? = some (some (.long x))) (k : J v M R K t0 cells slots h top (pc + 2) ls (.long x :: st)) : J v M R K t0 cells slots h top pc ls (st) := by
  intro p l e s m args below meth c F H locs A hz hH hS hl
  exact lv_lload F.1 F.2.1 d (hl.at hx) (k p l e s m args below meth c F H locs A hz hH hS hl)
theorem r_lstore_n {k0 : Fin 4} {i : Nat} {x : Int64} (d : decode M.2.1 pc = .ok (.lstore_n k0, 1)) (hi : (k0 : Nat) = i) (hn : i + 1 < M.2.2.1) (k : J v M R K t0 cells slots h top (pc + 1) (ls2 ls i (.long x)) st) : J v M R K t0 cells slots h top pc ls (.long x :: st) := by
  intro p l e s m args below meth c F H locs A hz hH hS hl
  exact lv_lstore_n F.1 F.2.1 d hi hl.has hn rfl (fun A1 h1 => k p l e s m args below meth c F H locs A1 hz hH hS (lvH.of h1 (fun j w hw => ls2_mem j w hw)))
theorem r_lstore {i : Nat} {x : Int64} (d : decode M.2.1 pc = .ok (.lstore i, 2)) (hn : i + 1 < M.2.2.1) (k : J v M R K t0 cells slots h top (pc + 2) (ls2 ls i (.long x)) st) : J v M R K t0 cells slots h top pc ls (.long x :: st) := by
  intro p l e s m args below meth c F H locs A hz hH hS hl
  exact lv_lstore F.1 F.2.1 d hl.has hn rfl (fun A1 h1 => k p l e s m args below meth c F H locs A1 hz hH hS (lvH.of h1 (fun j w hw => ls2_mem j w hw)))
theorem r_aload_n {k0 : Fin 4} {i : Nat} {x : Nat} (d : decode M.2.1 pc = .ok (.aload_n k0, 1)) (hi : (k0 : Nat) = i) (hx : ls[i]? = some (some (.ref x))) (k : J v M R K t0 cells slots h top (pc + 1) ls (.ref x :: st)) : J v M R K t0 cells slots h top pc ls (st) := by
  intro p l e s m args below meth c F H locs A hz hH hS hl
  exact lv_aload_n F.1 F.2.1 d hi (hl.at hx) (k p l e s m args below meth c F H locs A hz hH hS hl)
theorem r_aload {i : Nat} {x : Nat} (d : decode M.2.1 pc = .ok (.aload i, 2)) (hx : ls[i]? = some (some (.ref x))) (k : J v M R K t0 cells slots h top (pc + 2) ls (.ref x :: st)) : J v M R K t0 cells slots h top pc ls (st) := by
  intro p l e s m args below meth c F H locs A hz hH hS hl
  exact lv_aload F.1 F.2.1 d (hl.at hx) (k p l e s m args below meth c F H locs A hz hH hS hl)
theorem r_astore_n {k0 : Fin 4} {i : Nat} {x : Nat} (d : decode M.2.1 pc = .ok (.astore_n k0, 1)) (hi : (k0 : Nat) = i) (hn : i < M.2.2.1) (k : J v M R K t0 cells slots h top (pc + 1) (ls1 ls i (.ref x)) st) : J v M R K t0 cells slots h top pc ls (.ref x :: st) := by
  intro p l e s m args below meth c F H locs A hz hH hS hl
  exact lv_astore_n F.1 F.2.1 d hi hl.has hn rfl (fun A1 h1 => k p l e s m args below meth c F H locs A1 hz hH hS (lvH.of h1 (fun j w hw => ls1_mem j w hw)))
theorem r_astore {i : Nat} {x : Nat} (d : decode M.2.1 pc = .ok (.astore i, 2)) (hn : i < M.2.2.1) (k : J v M R K t0 cells slots h top (pc + 2) (ls1 ls i (.ref x)) st) : J v M R K t0 cells slots h top pc ls (.ref x :: st) := by
  intro p l e s m args below meth c F H locs A hz hH hS hl
  exact lv_astore F.1 F.2.1 d hl.has hn rfl (fun A1 h1 => k p l e s m args below meth c F H locs A1 hz hH hS (lvH.of h1 (fun j w hw => ls1_mem j w hw)))
theorem r_fload_n {k0 : Fin 4} {i : Nat} {x : UInt32} (d : decode M.2.1 pc = .ok (.fload_n k0, 1)) (hi : (k0 : Nat) = i) (hx : ls[i]? = some (some (.float x))) (k : J v M R K t0 cells slots h top (pc + 1) ls (.float x :: st)) : J v M R K t0 cells slots h top pc ls (st) := by
  intro p l e s m args below meth c F H locs A hz hH hS hl
  exact lv_fload_n F.1 F.2.1 d hi (hl.at hx) (k p l e s m args below meth c F H locs A hz hH hS hl)
theorem r_fload {i : Nat} {x : UInt32} (d : decode M.2.1 pc = .ok (.fload i, 2)) (hx : ls[i]? = some (some (.float x))) (k : J v M R K t0 cells slots h top (pc + 2) ls (.float x :: st)) : J v M R K t0 cells slots h top pc ls (st) := by
  intro p l e s m args below meth c F H locs A hz hH hS hl
  exact lv_fload F.1 F.2.1 d (hl.at hx) (k p l e s m args below meth c F H locs A hz hH hS hl)
theorem r_fstore_n {k0 : Fin 4} {i : Nat} {x : UInt32} (d : decode M.2.1 pc = .ok (.fstore_n k0, 1)) (hi : (k0 : Nat) = i) (hn : i < M.2.2.1) (k : J v M R K t0 cells slots h top (pc + 1) (ls1 ls i (.float x)) st) : J v M R K t0 cells slots h top pc ls (.float x :: st) := by
  intro p l e s m args below meth c F H locs A hz hH hS hl
  exact lv_fstore_n F.1 F.2.1 d hi hl.has hn rfl (fun A1 h1 => k p l e s m args below meth c F H locs A1 hz hH hS (lvH.of h1 (fun j w hw => ls1_mem j w hw)))
theorem r_fstore {i : Nat} {x : UInt32} (d : decode M.2.1 pc = .ok (.fstore i, 2)) (hn : i < M.2.2.1) (k : J v M R K t0 cells slots h top (pc + 2) (ls1 ls i (.float x)) st) : J v M R K t0 cells slots h top pc ls (.float x :: st) := by
  intro p l e s m args below meth c F H locs A hz hH hS hl
  exact lv_fstore F.1 F.2.1 d hl.has hn rfl (fun A1 h1 => k p l e s m args below meth c F H locs A1 hz hH hS (lvH.of h1 (fun j w hw => ls1_mem j w hw)))
theorem r_dload_n {k0 : Fin 4} {i : Nat} {x : UInt64} (d : decode M.2.1 pc = .ok (.dload_n k0, 1)) (hi : (k0 : Nat) = i) (hx : ls[i]? = some (some (.double x))) (k : J v M R K t0 cells slots h top (pc + 1) ls (.double x :: st)) : J v M R K t0 cells slots h top pc ls (st) := by
  intro p l e s m args below meth c F H locs A hz hH hS hl
  exact lv_dload_n F.1 F.2.1 d hi (hl.at hx) (k p l e s m args below meth c F H locs A hz hH hS hl)
theorem r_dload {i : Nat} {x : UInt64} (d : decode M.2.1 pc = .ok (.dload i, 2)) (hx : ls[i]? = some (some (.double x))) (k : J v M R K t0 cells slots h top (pc + 2) ls (.double x :: st)) : J v M R K t0 cells slots h top pc ls (st) := by
  intro p l e s m args below meth c F H locs A hz hH hS hl
  exact lv_dload F.1 F.2.1 d (hl.at hx) (k p l e s m args below meth c F H locs A hz hH hS hl)
theorem r_dstore_n {k0 : Fin 4} {i : Nat} {x : UInt64} (d : decode M.2.1 pc = .ok (.dstore_n k0, 1)) (hi : (k0 : Nat) = i) (hn : i + 1 < M.2.2.1) (k : J v M R K t0 cells slots h top (pc + 1) (ls2 ls i (.double x)) st) : J v M R K t0 cells slots h top pc ls (.double x :: st) := by
  intro p l e s m args below meth c F H locs A hz hH hS hl
  exact lv_dstore_n F.1 F.2.1 d hi hl.has hn rfl (fun A1 h1 => k p l e s m args below meth c F H locs A1 hz hH hS (lvH.of h1 (fun j w hw => ls2_mem j w hw)))
theorem r_dstore {i : Nat} {x : UInt64} (d : decode M.2.1 pc = .ok (.dstore i, 2)) (hn : i + 1 < M.2.2.1) (k : J v M R K t0 cells slots h top (pc + 2) (ls2 ls i (.double x)) st) : J v M R K t0 cells slots h top pc ls (.double x :: st) := by
  intro p l e s m args below meth c F H locs A hz hH hS hl
  exact lv_dstore F.1 F.2.1 d hl.has hn rfl (fun A1 h1 => k p l e s m args below meth c F H locs A1 hz hH hS (lvH.of h1 (fun j w hw => ls2_mem j w hw)))
theorem r_iinc {i : Nat} {n : Int} {x y : Int32} (d : decode M.2.1 pc = .ok (.iinc i n, 3)) (hx : ls[i]? = some (some (.int x))) (hv : x + Int32.ofInt n = y) (hn : i < M.2.2.1) (k : J v M R K t0 cells slots h top (pc + 3) (ls1 ls i (.int y)) st) : J v M R K t0 cells slots h top pc ls st := by
  intro p l e s m args below meth c F H locs A hz hH hS hl
  obtain ⟨k9, hk9⟩ := List.getElem?_of_mem ((lvL_mem ls 0 i _).mpr ⟨Nat.zero_le _, hx⟩)
  exact lv_iinc F.1 F.2.1 d hl.has hk9 hv hn rfl (fun A1 h1 => k p l e s m args below meth c F H locs A1 hz hH hS (lvH.of h1 (fun j w hw => ls1_mem j w hw)))
theorem nI_inc (u : Nat) : nI u + Int32.ofInt 1 = nI (u + 1) := (nI_1 u)
theorem r_iincN {i u : Nat} (d : decode M.2.1 pc = .ok (.iinc i 1, 3)) (hx : ls[i]? = some (some (.int (nI u)))) (hn : i < M.2.2.1) (k : J v M R K t0 cells slots h top (pc + 3) (ls1 ls i (.int (nI (u + 1)))) st) : J v M R K t0 cells slots h top pc ls st := r_iinc d hx (nI_inc u) hn k
theorem r_iadd {x y : Int32} (d : decode M.2.1 pc = .ok (.iadd, 1))  (k : J v M R K t0 cells slots h top (pc + 1) ls (.int (x + y) :: st)) : J v M R K t0 cells slots h top pc ls (.int y :: .int x :: st) := by
  intro p l e s m args below meth c F H locs A hz hH hS hl
  exact lv_iadd F.1 F.2.1 d  (k p l e s m args below meth c F H locs A hz hH hS hl)
theorem r_isub {x y : Int32} (d : decode M.2.1 pc = .ok (.isub, 1))  (k : J v M R K t0 cells slots h top (pc + 1) ls (.int (x - y) :: st)) : J v M R K t0 cells slots h top pc ls (.int y :: .int x :: st) := by
  intro p l e s m args below meth c F H locs A hz hH hS hl
  exact lv_isub F.1 F.2.1 d  (k p l e s m args below meth c F H locs A hz hH hS hl)
theorem r_imul {x y : Int32} (d : decode M.2.1 pc = .ok (.imul, 1))  (k : J v M R K t0 cells slots h top (pc + 1) ls (.int (x * y) :: st)) : J v M R K t0 cells slots h top pc ls (.int y :: .int x :: st) := by
  intro p l e s m args below meth c F H locs A hz hH hS hl
  exact lv_imul F.1 F.2.1 d  (k p l e s m args below meth c F H locs A hz hH hS hl)
theorem r_iand {x y : Int32} (d : decode M.2.1 pc = .ok (.iand, 1))  (k : J v M R K t0 cells slots h top (pc + 1) ls (.int (x &&& y) :: st)) : J v M R K t0 cells slots h top pc ls (.int y :: .int x :: st) := by
  intro p l e s m args below meth c F H locs A hz hH hS hl
  exact lv_iand F.1 F.2.1 d  (k p l e s m args below meth c F H locs A hz hH hS hl)
theorem r_ior {x y : Int32} (d : decode M.2.1 pc = .ok (.ior, 1))  (k : J v M R K t0 cells slots h top (pc + 1) ls (.int (x ||| y) :: st)) : J v M R K t0 cells slots h top pc ls (.int y :: .int x :: st) := by
  intro p l e s m args below meth c F H locs A hz hH hS hl
  exact lv_ior F.1 F.2.1 d  (k p l e s m args below meth c F H locs A hz hH hS hl)
theorem r_ixor {x y : Int32} (d : decode M.2.1 pc = .ok (.ixor, 1))  (k : J v M R K t0 cells slots h top (pc + 1) ls (.int (x ^^^ y) :: st)) : J v M R K t0 cells slots h top pc ls (.int y :: .int x :: st) := by
  intro p l e s m args below meth c F H locs A hz hH hS hl
  exact lv_ixor F.1 F.2.1 d  (k p l e s m args below meth c F H locs A hz hH hS hl)
theorem r_ishl {x y : Int32} (d : decode M.2.1 pc = .ok (.ishl, 1))  (k : J v M R K t0 cells slots h top (pc + 1) ls (.int (x <<< (y &&& 31)) :: st)) : J v M R K t0 cells slots h top pc ls (.int y :: .int x :: st) := by
  intro p l e s m args below meth c F H locs A hz hH hS hl
  exact lv_ishl F.1 F.2.1 d  (k p l e s m args below meth c F H locs A hz hH hS hl)
theorem r_ishr {x y : Int32} (d : decode M.2.1 pc = .ok (.ishr, 1))  (k : J v M R K t0 cells slots h top (pc + 1) ls (.int (x >>> (y &&& 31)) :: st)) : J v M R K t0 cells slots h top pc ls (.int y :: .int x :: st) := by
  intro p l e s m args below meth c F H locs A hz hH hS hl
  exact lv_ishr F.1 F.2.1 d  (k p l e s m args below meth c F H locs A hz hH hS hl)
theorem r_idiv {x y : Int32} (d : decode M.2.1 pc = .ok (.idiv, 1)) (hne : ¬ y = 0) (k : J v M R K t0 cells slots h top (pc + 1) ls (.int (x / y) :: st)) : J v M R K t0 cells slots h top pc ls (.int y :: .int x :: st) := by
  intro p l e s m args below meth c F H locs A hz hH hS hl
  exact lv_idiv F.1 F.2.1 d hne (k p l e s m args below meth c F H locs A hz hH hS hl)
theorem r_irem {x y : Int32} (d : decode M.2.1 pc = .ok (.irem, 1)) (hne : ¬ y = 0) (k : J v M R K t0 cells slots h top (pc + 1) ls (.int (x - x / y * y) :: st)) : J v M R K t0 cells slots h top pc ls (.int y :: .int x :: st) := by
  intro p l e s m args below meth c F H locs A hz hH hS hl
  exact lv_irem F.1 F.2.1 d hne (k p l e s m args below meth c F H locs A hz hH hS hl)
theorem r_ladd {x y : Int64} (d : decode M.2.1 pc = .ok (.ladd, 1))  (k : J v M R K t0 cells slots h top (pc + 1) ls (.long (x + y) :: st)) : J v M R K t0 cells slots h top pc ls (.long y :: .long x :: st) := by
  intro p l e s m args below meth c F H locs A hz hH hS hl
  exact lv_ladd F.1 F.2.1 d  (k p l e s m args below meth c F H locs A hz hH hS hl)
theorem r_lsub {x y : Int64} (d : decode M.2.1 pc = .ok (.lsub, 1))  (k : J v M R K t0 cells slots h top (pc + 1) ls (.long (x - y) :: st)) : J v M R K t0 cells slots h top pc ls (.long y :: .long x :: st) := by
  intro p l e s m args below meth c F H locs A hz hH hS hl
  exact lv_lsub F.1 F.2.1 d  (k p l e s m args below meth c F H locs A hz hH hS hl)
theorem r_lmul {x y : Int64} (d : decode M.2.1 pc = .ok (.lmul, 1))  (k : J v M R K t0 cells slots h top (pc + 1) ls (.long (x * y) :: st)) : J v M R K t0 cells slots h top pc ls (.long y :: .long x :: st) := by
  intro p l e s m args below meth c F H locs A hz hH hS hl
  exact lv_lmul F.1 F.2.1 d  (k p l e s m args below meth c F H locs A hz hH hS hl)
theorem r_ldiv {x y : Int64} (d : decode M.2.1 pc = .ok (.ldiv, 1)) (hne : ¬ y = 0) (k : J v M R K t0 cells slots h top (pc + 1) ls (.long (x / y) :: st)) : J v M R K t0 cells slots h top pc ls (.long y :: .long x :: st) := by
  intro p l e s m args below meth c F H locs A hz hH hS hl
  exact lv_ldiv F.1 F.2.1 d hne (k p l e s m args below meth c F H locs A hz hH hS hl)
theorem r_lrem {x y : Int64} (d : decode M.2.1 pc = .ok (.lrem, 1)) (hne : ¬ y = 0) (k : J v M R K t0 cells slots h top (pc + 1) ls (.long (x - x / y * y) :: st)) : J v M R K t0 cells slots h top pc ls (.long y :: .long x :: st) := by
  intro p l e s m args below meth c F H locs A hz hH hS hl
  exact lv_lrem F.1 F.2.1 d hne (k p l e s m args below meth c F H locs A hz hH hS hl)
theorem r_iaddN {a b : Nat} (d : decode M.2.1 pc = .ok (.iadd, 1))  (k : J v M R K t0 cells slots h top (pc + 1) ls (.int (nI (a + b)) :: st)) : J v M R K t0 cells slots h top pc ls (.int (nI b) :: .int (nI a) :: st) := by
  intro p l e s m args below meth c F H locs A hz hH hS hl
  exact lv_iadd F.1 F.2.1 d (by rw [nI_add]; exact k p l e s m args below meth c F H locs A hz hH hS hl)
theorem r_imulN {a b : Nat} (d : decode M.2.1 pc = .ok (.imul, 1))  (k : J v M R K t0 cells slots h top (pc + 1) ls (.int (nI (a * b)) :: st)) : J v M R K t0 cells slots h top pc ls (.int (nI b) :: .int (nI a) :: st) := by
  intro p l e s m args below meth c F H locs A hz hH hS hl
  exact lv_imul F.1 F.2.1 d (by rw [pk_mul]; exact k p l e s m args below meth c F H locs A hz hH hS hl)
theorem r_ineg {x : Int32} (d : decode M.2.1 pc = .ok (.ineg, 1))  (k : J v M R K t0 cells slots h top (pc + 1) ls (.int (-x) :: st)) : J v M R K t0 cells slots h top pc ls (.int x :: st) := by
  intro p l e s m args below meth c F H locs A hz hH hS hl
  exact lv_ineg F.1 F.2.1 d  (k p l e s m args below meth c F H locs A hz hH hS hl)
theorem r_lneg {x : Int64} (d : decode M.2.1 pc = .ok (.lneg, 1))  (k : J v M R K t0 cells slots h top (pc + 1) ls (.long (-x) :: st)) : J v M R K t0 cells slots h top pc ls (.long x :: st) := by
  intro p l e s m args below meth c F H locs A hz hH hS hl
  exact lv_lneg F.1 F.2.1 d  (k p l e s m args below meth c F H locs A hz hH hS hl)
theorem r_i2l {x : Int32} (d : decode M.2.1 pc = .ok (.i2l, 1))  (k : J v M R K t0 cells slots h top (pc + 1) ls (.long x.toInt64 :: st)) : J v M R K t0 cells slots h top pc ls (.int x :: st) := by
  intro p l e s m args below meth c F H locs A hz hH hS hl
  exact lv_i2l F.1 F.2.1 d rfl (k p l e s m args below meth c F H locs A hz hH hS hl)
theorem r_l2i {x : Int64} (d : decode M.2.1 pc = .ok (.l2i, 1))  (k : J v M R K t0 cells slots h top (pc + 1) ls (.int x.toInt32 :: st)) : J v M R K t0 cells slots h top pc ls (.long x :: st) := by
  intro p l e s m args below meth c F H locs A hz hH hS hl
  exact lv_l2i F.1 F.2.1 d rfl (k p l e s m args below meth c F H locs A hz hH hS hl)
theorem r_i2b {x : Int32} (d : decode M.2.1 pc = .ok (.i2b, 1))  (k : J v M R K t0 cells slots h top (pc + 1) ls (.int x.toInt8.toInt32 :: st)) : J v M R K t0 cells slots h top pc ls (.int x :: st) := by
  intro p l e s m args below meth c F H locs A hz hH hS hl
  exact lv_i2b F.1 F.2.1 d rfl (k p l e s m args below meth c F H locs A hz hH hS hl)
theorem r_i2c {x : Int32} (d : decode M.2.1 pc = .ok (.i2c, 1))  (k : J v M R K t0 cells slots h top (pc + 1) ls (.int (x.toUInt32 % 65536).toInt32 :: st)) : J v M R K t0 cells slots h top pc ls (.int x :: st) := by
  intro p l e s m args below meth c F H locs A hz hH hS hl
  exact lv_i2c F.1 F.2.1 d rfl (k p l e s m args below meth c F H locs A hz hH hS hl)
theorem r_i2f {x : Int32} (d : decode M.2.1 pc = .ok (.i2f, 1))  (k : J v M R K t0 cells slots h top (pc + 1) ls (.float (FP.i2f x) :: st)) : J v M R K t0 cells slots h top pc ls (.int x :: st) := by
  intro p l e s m args below meth c F H locs A hz hH hS hl
  exact lv_i2f F.1 F.2.1 d  (k p l e s m args below meth c F H locs A hz hH hS hl)
theorem r_l2f {x : Int64} (d : decode M.2.1 pc = .ok (.l2f, 1))  (k : J v M R K t0 cells slots h top (pc + 1) ls (.float (FP.l2f x) :: st)) : J v M R K t0 cells slots h top pc ls (.long x :: st) := by
  intro p l e s m args below meth c F H locs A hz hH hS hl
  exact lv_l2f F.1 F.2.1 d  (k p l e s m args below meth c F H locs A hz hH hS hl)
theorem r_fadd {x y : UInt32} (d : decode M.2.1 pc = .ok (.fadd, 1)) (hne : vf_n32 (FP.fadd x y)) (k : J v M R K t0 cells slots h top (pc + 1) ls (.float (FP.fadd x y) :: st)) : J v M R K t0 cells slots h top pc ls (.float y :: .float x :: st) := by
  intro p l e s m args below meth c F H locs A hz hH hS hl
  exact lv_fadd F.1 F.2.1 d hne (k p l e s m args below meth c F H locs A hz hH hS hl)
theorem r_fmul {x y : UInt32} (d : decode M.2.1 pc = .ok (.fmul, 1)) (hne : vf_n32 (FP.fmul x y)) (k : J v M R K t0 cells slots h top (pc + 1) ls (.float (FP.fmul x y) :: st)) : J v M R K t0 cells slots h top pc ls (.float y :: .float x :: st) := by
  intro p l e s m args below meth c F H locs A hz hH hS hl
  exact lv_fmul F.1 F.2.1 d hne (k p l e s m args below meth c F H locs A hz hH hS hl)
theorem r_fdiv {x y : UInt32} (d : decode M.2.1 pc = .ok (.fdiv, 1)) (hne : vf_n32 (FP.fdiv x y)) (k : J v M R K t0 cells slots h top (pc + 1) ls (.float (FP.fdiv x y) :: st)) : J v M R K t0 cells slots h top pc ls (.float y :: .float x :: st) := by
  intro p l e s m args below meth c F H locs A hz hH hS hl
  exact lv_fdiv F.1 F.2.1 d hne (k p l e s m args below meth c F H locs A hz hH hS hl)
theorem r_f2d {x : UInt32} (d : decode M.2.1 pc = .ok (.f2d, 1)) (hne : vf_n64 (FP.f2d x)) (k : J v M R K t0 cells slots h top (pc + 1) ls (.double (FP.f2d x) :: st)) : J v M R K t0 cells slots h top pc ls (.float x :: st) := by
  intro p l e s m args below meth c F H locs A hz hH hS hl
  exact lv_f2d F.1 F.2.1 d hne (k p l e s m args below meth c F H locs A hz hH hS hl)
theorem r_lcmp {x y : Int64} (d : decode M.2.1 pc = .ok (.lcmp, 1))  (k : J v M R K t0 cells slots h top (pc + 1) ls (.int (lg_cmp x y) :: st)) : J v M R K t0 cells slots h top pc ls (.long y :: .long x :: st) := by
  intro p l e s m args below meth c F H locs A hz hH hS hl
  exact W.lcmp F.1 F.2.1 d  (k p l e s m args below meth c F H locs A hz hH hS hl)
theorem r_fcmp {x y : UInt32} {op : CmpOp} (d : decode M.2.1 pc = .ok (.fcmp op, 1))  (k : J v M R K t0 cells slots h top (pc + 1) ls (.int (Op.cmpValue (FP.fcmp x y) op) :: st)) : J v M R K t0 cells slots h top pc ls (.float y :: .float x :: st) := by
  intro p l e s m args below meth c F H locs A hz hH hS hl
  exact lv_fcmp F.1 F.2.1 d  (k p l e s m args below meth c F H locs A hz hH hS hl)
theorem r_dcmp {x y : UInt64} {op : CmpOp} (d : decode M.2.1 pc = .ok (.dcmp op, 1))  (k : J v M R K t0 cells slots h top (pc + 1) ls (.int (Op.cmpValue (FP.dcmp x y) op) :: st)) : J v M R K t0 cells slots h top pc ls (.double y :: .double x :: st) := by
  intro p l e s m args below meth c F H locs A hz hH hS hl
  exact lv_dcmp F.1 F.2.1 d  (k p l e s m args below meth c F H locs A hz hH hS hl)
theorem r_dup {x : Value} (d : decode M.2.1 pc = .ok (.dup, 1)) (hx : x.category = 1) (k : J v M R K t0 cells slots h top (pc + 1) ls (x :: x :: st)) : J v M R K t0 cells slots h top pc ls (x :: st) := by
  intro p l e s m args below meth c F H locs A hz hH hS hl
  exact lv_dup F.1 F.2.1 d hx (k p l e s m args below meth c F H locs A hz hH hS hl)
theorem r_pop {x : Value} (d : decode M.2.1 pc = .ok (.pop, 1)) (hx : x.category = 1) (k : J v M R K t0 cells slots h top (pc + 1) ls (st)) : J v M R K t0 cells slots h top pc ls (x :: st) := by
  intro p l e s m args below meth c F H locs A hz hH hS hl
  exact lv_pop F.1 F.2.1 d hx (k p l e s m args below meth c F H locs A hz hH hS hl)
theorem r_dup2_11 {x y : Value} (d : decode M.2.1 pc = .ok (.dup2, 1)) (hx : x.category = 1) (hy : y.category = 1) (k : J v M R K t0 cells slots h top (pc + 1) ls (x :: y :: x :: y :: st)) : J v M R K t0 cells slots h top pc ls (x :: y :: st) := by
  intro p l e s m args below meth c F H locs A hz hH hS hl
  exact lv_dup2_11 F.1 F.2.1 d hx hy (k p l e s m args below meth c F H locs A hz hH hS hl)
theorem r_dup2_2 {x : Value} (d : decode M.2.1 pc = .ok (.dup2, 1)) (hx : x.category = 2) (k : J v M R K t0 cells slots h top (pc + 1) ls (x :: x :: st)) : J v M R K t0 cells slots h top pc ls (x :: st) := by
  intro p l e s m args below meth c F H locs A hz hH hS hl
  exact lv_dup2_2 F.1 F.2.1 d hx (k p l e s m args below meth c F H locs A hz hH hS hl)
theorem r_dup_x1 {x y : Value} (d : decode M.2.1 pc = .ok (.dup_x1, 1)) (hx : x.category = 1) (hy : y.category = 1) (k : J v M R K t0 cells slots h top (pc + 1) ls (x :: y :: x :: st)) : J v M R K t0 cells slots h top pc ls (x :: y :: st) := by
  intro p l e s m args below meth c F H locs A hz hH hS hl
  exact lv_dup_x1 F.1 F.2.1 d hx hy (k p l e s m args below meth c F H locs A hz hH hS hl)
theorem r_if_eq {x : Int32} {off : Int} (tgt : Nat) (d : decode M.2.1 pc = .ok (.ifCond .eq off, 3)) (ht : (pc : Int) + off = (tgt : Int)) (kt : x = 0 → J v M R K t0 cells slots h top tgt ls st) (kf : ¬ x = 0 → J v M R K t0 cells slots h top (pc + 3) ls st) : J v M R K t0 cells slots h top pc ls (.int x :: st) := by
  intro p l e s m args below meth c F H locs A hz hH hS hl
  exact lv_if_eq F.1 F.2.1 d ht (fun q => kt q p l e s m args below meth c F H locs A hz hH hS hl) (fun q => kf q p l e s m args below meth c F H locs A hz hH hS hl)
theorem r_if_ne {x : Int32} {off : Int} (tgt : Nat) (d : decode M.2.1 pc = .ok (.ifCond .ne off, 3)) (ht : (pc : Int) + off = (tgt : Int)) (kt : ¬ x = 0 → J v M R K t0 cells slots h top tgt ls st) (kf : x = 0 → J v M R K t0 cells slots h top (pc + 3) ls st) : J v M R K t0 cells slots h top pc ls (.int x :: st) := by
  intro p l e s m args below meth c F H locs A hz hH hS hl
  exact lv_if_ne F.1 F.2.1 d ht (fun q => kt q p l e s m args below meth c F H locs A hz hH hS hl) (fun q => kf q p l e s m args below meth c F H locs A hz hH hS hl)
theorem r_if_lt {x : Int32} {off : Int} (tgt : Nat) (d : decode M.2.1 pc = .ok (.ifCond .lt off, 3)) (ht : (pc : Int) + off = (tgt : Int)) (kt : x < 0 → J v M R K t0 cells slots h top tgt ls st) (kf : ¬ x < 0 → J v M R K t0 cells slots h top (pc + 3) ls st) : J v M R K t0 cells slots h top pc ls (.int x :: st) := by
  intro p l e s m args below meth c F H locs A hz hH hS hl
  exact lv_if_lt F.1 F.2.1 d ht (fun q => kt q p l e s m args below meth c F H locs A hz hH hS hl) (fun q => kf q p l e s m args below meth c F H locs A hz hH hS hl)
theorem r_if_ge {x : Int32} {off : Int} (tgt : Nat) (d : decode M.2.1 pc = .ok (.ifCond .ge off, 3)) (ht : (pc : Int) + off = (tgt : Int)) (kt : 0 ≤ x → J v M R K t0 cells slots h top tgt ls st) (kf : ¬ 0 ≤ x → J v M R K t0 cells slots h top (pc + 3) ls st) : J v M R K t0 cells slots h top pc ls (.int x :: st) := by
  intro p l e s m args below meth c F H locs A hz hH hS hl
  exact lv_if_ge F.1 F.2.1 d ht (fun q => kt q p l e s m args below meth c F H locs A hz hH hS hl) (fun q => kf q p l e s m args below meth c F H locs A hz hH hS hl)
theorem r_if_gt {x : Int32} {off : Int} (tgt : Nat) (d : decode M.2.1 pc = .ok (.ifCond .gt off, 3)) (ht : (pc : Int) + off = (tgt : Int)) (kt : 0 < x → J v M R K t0 cells slots h top tgt ls st) (kf : ¬ 0 < x → J v M R K t0 cells slots h top (pc + 3) ls st) : J v M R K t0 cells slots h top pc ls (.int x :: st) := by
  intro p l e s m args below meth c F H locs A hz hH hS hl
  exact lv_if_gt F.1 F.2.1 d ht (fun q => kt q p l e s m args below meth c F H locs A hz hH hS hl) (fun q => kf q p l e s m args below meth c F H locs A hz hH hS hl)
theorem r_if_le {x : Int32} {off : Int} (tgt : Nat) (d : decode M.2.1 pc = .ok (.ifCond .le off, 3)) (ht : (pc : Int) + off = (tgt : Int)) (kt : x ≤ 0 → J v M R K t0 cells slots h top tgt ls st) (kf : ¬ x ≤ 0 → J v M R K t0 cells slots h top (pc + 3) ls st) : J v M R K t0 cells slots h top pc ls (.int x :: st) := by
  intro p l e s m args below meth c F H locs A hz hH hS hl
  exact lv_if_le F.1 F.2.1 d ht (fun q => kt q p l e s m args below meth c F H locs A hz hH hS hl) (fun q => kf q p l e s m args below meth c F H locs A hz hH hS hl)
theorem r_icmp_eq {x y : Int32} {off : Int} (tgt : Nat) (d : decode M.2.1 pc = .ok (.if_icmp .eq off, 3)) (ht : (pc : Int) + off = (tgt : Int)) (kt : x = y → J v M R K t0 cells slots h top tgt ls st) (kf : ¬ x = y → J v M R K t0 cells slots h top (pc + 3) ls st) : J v M R K t0 cells slots h top pc ls (.int y :: .int x :: st) := by
  intro p l e s m args below meth c F H locs A hz hH hS hl
  exact lv_icmp_eq F.1 F.2.1 d ht (fun q => kt q p l e s m args below meth c F H locs A hz hH hS hl) (fun q => kf q p l e s m args below meth c F H locs A hz hH hS hl)
theorem r_icmp_ne {x y : Int32} {off : Int} (tgt : Nat) (d : decode M.2.1 pc = .ok (.if_icmp .ne off, 3)) (ht : (pc : Int) + off = (tgt : Int)) (kt : ¬ x = y → J v M R K t0 cells slots h top tgt ls st) (kf : x = y → J v M R K t0 cells slots h top (pc + 3) ls st) : J v M R K t0 cells slots h top pc ls (.int y :: .int x :: st) := by
  intro p l e s m args below meth c F H locs A hz hH hS hl
  exact lv_icmp_ne F.1 F.2.1 d ht (fun q => kt q p l e s m args below meth c F H locs A hz hH hS hl) (fun q => kf q p l e s m args below meth c F H locs A hz hH hS hl)
theorem r_icmp_lt {x y : Int32} {off : Int} (tgt : Nat) (d : decode M.2.1 pc = .ok (.if_icmp .lt off, 3)) (ht : (pc : Int) + off = (tgt : Int)) (kt : x < y → J v M R K t0 cells slots h top tgt ls st) (kf : ¬ x < y → J v M R K t0 cells slots h top (pc + 3) ls st) : J v M R K t0 cells slots h top pc ls (.int y :: .int x :: st) := by
  intro p l e s m args below meth c F H locs A hz hH hS hl
  exact lv_icmp_lt F.1 F.2.1 d ht (fun q => kt q p l e s m args below meth c F H locs A hz hH hS hl) (fun q => kf q p l e s m args below meth c F H locs A hz hH hS hl)
theorem r_icmp_ge {x y : Int32} {off : Int} (tgt : Nat) (d : decode M.2.1 pc = .ok (.if_icmp .ge off, 3)) (ht : (pc : Int) + off = (tgt : Int)) (kt : y ≤ x → J v M R K t0 cells slots h top tgt ls st) (kf : ¬ y ≤ x → J v M R K t0 cells slots h top (pc + 3) ls st) : J v M R K t0 cells slots h top pc ls (.int y :: .int x :: st) := by
  intro p l e s m args below meth c F H locs A hz hH hS hl
  exact lv_icmp_ge F.1 F.2.1 d ht (fun q => kt q p l e s m args below meth c F H locs A hz hH hS hl) (fun q => kf q p l e s m args below meth c F H locs A hz hH hS hl)
theorem r_icmp_gt {x y : Int32} {off : Int} (tgt : Nat) (d : decode M.2.1 pc = .ok (.if_icmp .gt off, 3)) (ht : (pc : Int) + off = (tgt : Int)) (kt : y < x → J v M R K t0 cells slots h top tgt ls st) (kf : ¬ y < x → J v M R K t0 cells slots h top (pc + 3) ls st) : J v M R K t0 cells slots h top pc ls (.int y :: .int x :: st) := by
  intro p l e s m args below meth c F H locs A hz hH hS hl
  exact lv_icmp_gt F.1 F.2.1 d ht (fun q => kt q p l e s m args below meth c F H locs A hz hH hS hl) (fun q => kf q p l e s m args below meth c F H locs A hz hH hS hl)
theorem r_icmp_le {x y : Int32} {off : Int} (tgt : Nat) (d : decode M.2.1 pc = .ok (.if_icmp .le off, 3)) (ht : (pc : Int) + off = (tgt : Int)) (kt : x ≤ y → J v M R K t0 cells slots h top tgt ls st) (kf : ¬ x ≤ y → J v M R K t0 cells slots h top (pc + 3) ls st) : J v M R K t0 cells slots h top pc ls (.int y :: .int x :: st) := by
  intro p l e s m args below meth c F H locs A hz hH hS hl
  exact lv_icmp_le F.1 F.2.1 d ht (fun q => kt q p l e s m args below meth c F H locs A hz hH hS hl) (fun q => kf q p l e s m args below meth c F H locs A hz hH hS hl)
theorem nI_lt_iff {a b : Nat} (ha : a < 2147483648) (hb : b < 2147483648) : nI a < nI b ↔ a < b := nI_ltI ha hb
theorem nI_le_iff {a b : Nat} (ha : a < 2147483648) (hb : b < 2147483648) : nI a ≤ nI b ↔ a ≤ b := nI_leI ha hb
theorem nI_eq_iff {a b : Nat} (ha : a < 2147483648) (hb : b < 2147483648) : nI a = nI b ↔ a = b := nI_eq ha hb
theorem r_icmp_eqN {a b : Nat} {off : Int} (tgt : Nat) (d : decode M.2.1 pc = .ok (.if_icmp .eq off, 3)) (ht : (pc : Int) + off = (tgt : Int)) (ha : a < 2147483648) (hb : b < 2147483648) (kt : a = b → J v M R K t0 cells slots h top tgt ls st) (kf : a ≠ b → J v M R K t0 cells slots h top (pc + 3) ls st) : J v M R K t0 cells slots h top pc ls (.int (nI b) :: .int (nI a) :: st) := by
  exact r_icmp_eq tgt d ht (fun q => kt ((nI_eq_iff ha hb).mp q)) (fun q => kf (fun z => q ((nI_eq_iff ha hb).mpr z)))
theorem r_icmp_neN {a b : Nat} {off : Int} (tgt : Nat) (d : decode M.2.1 pc = .ok (.if_icmp .ne off, 3)) (ht : (pc : Int) + off = (tgt : Int)) (ha : a < 2147483648) (hb : b < 2147483648) (kt : a ≠ b → J v M R K t0 cells slots h top tgt ls st) (kf : a = b → J v M R K t0 cells slots h top (pc + 3) ls st) : J v M R K t0 cells slots h top pc ls (.int (nI b) :: .int (nI a) :: st) := by
  exact r_icmp_ne tgt d ht (fun q => kt (fun z => q ((nI_eq_iff ha hb).mpr z))) (fun q => kf ((nI_eq_iff ha hb).mp (by simpa using q)))
theorem r_icmp_ltN {a b : Nat} {off : Int} (tgt : Nat) (d : decode M.2.1 pc = .ok (.if_icmp .lt off, 3)) (ht : (pc : Int) + off = (tgt : Int)) (ha : a < 2147483648) (hb : b < 2147483648) (kt : a < b → J v M R K t0 cells slots h top tgt ls st) (kf : b ≤ a → J v M R K t0 cells slots h top (pc + 3) ls st) : J v M R K t0 cells slots h top pc ls (.int (nI b) :: .int (nI a) :: st) := by
  exact r_icmp_lt tgt d ht (fun q => kt ((nI_lt_iff ha hb).mp q)) (fun q => kf (Nat.not_lt.mp (fun z => q ((nI_lt_iff ha hb).mpr z))))
theorem r_icmp_geN {a b : Nat} {off : Int} (tgt : Nat) (d : decode M.2.1 pc = .ok (.if_icmp .ge off, 3)) (ht : (pc : Int) + off = (tgt : Int)) (ha : a < 2147483648) (hb : b < 2147483648) (kt : b ≤ a → J v M R K t0 cells slots h top tgt ls st) (kf : a < b → J v M R K t0 cells slots h top (pc + 3) ls st) : J v M R K t0 cells slots h top pc ls (.int (nI b) :: .int (nI a) :: st) := by
  exact r_icmp_ge tgt d ht (fun q => kt ((nI_le_iff hb ha).mp q)) (fun q => kf (Nat.not_le.mp (fun z => q ((nI_le_iff hb ha).mpr z))))
theorem r_icmp_gtN {a b : Nat} {off : Int} (tgt : Nat) (d : decode M.2.1 pc = .ok (.if_icmp .gt off, 3)) (ht : (pc : Int) + off = (tgt : Int)) (ha : a < 2147483648) (hb : b < 2147483648) (kt : b < a → J v M R K t0 cells slots h top tgt ls st) (kf : a ≤ b → J v M R K t0 cells slots h top (pc + 3) ls st) : J v M R K t0 cells slots h top pc ls (.int (nI b) :: .int (nI a) :: st) := by
  exact r_icmp_gt tgt d ht (fun q => kt ((nI_lt_iff hb ha).mp q)) (fun q => kf (Nat.not_lt.mp (fun z => q ((nI_lt_iff hb ha).mpr z))))
theorem r_icmp_leN {a b : Nat} {off : Int} (tgt : Nat) (d : decode M.2.1 pc = .ok (.if_icmp .le off, 3)) (ht : (pc : Int) + off = (tgt : Int)) (ha : a < 2147483648) (hb : b < 2147483648) (kt : a ≤ b → J v M R K t0 cells slots h top tgt ls st) (kf : b < a → J v M R K t0 cells slots h top (pc + 3) ls st) : J v M R K t0 cells slots h top pc ls (.int (nI b) :: .int (nI a) :: st) := by
  exact r_icmp_le tgt d ht (fun q => kt ((nI_le_iff ha hb).mp q)) (fun q => kf (Nat.not_le.mp (fun z => q ((nI_le_iff ha hb).mpr z))))
theorem r_goto {off : Int} (tgt : Nat) (d : decode M.2.1 pc = .ok (.goto off, 3)) (ht : (pc : Int) + off = (tgt : Int)) (k : J v M R K t0 cells slots h top tgt ls st) : J v M R K t0 cells slots h top pc ls st := by
  intro p l e s m args below meth c F H locs A hz hH hS hl
  exact lv_goto F.1 F.2.1 d ht (k p l e s m args below meth c F H locs A hz hH hS hl)
theorem r_swOut {dflt lo hi : Int} {offs : Array Int} {len : Nat} {x : Int32} (tgt : Nat) (d : decode M.2.1 pc = .ok (.tableswitch dflt lo hi offs, len)) (hx : x.toInt < lo ∨ hi < x.toInt) (ht : (pc : Int) + dflt = (tgt : Int)) (k : J v M R K t0 cells slots h top tgt ls st) : J v M R K t0 cells slots h top pc ls (.int x :: st) := by
  intro p l e s m args below meth c F H locs A hz hH hS hl
  exact lv_tableOut F.1 F.2.1 d hx ht (k p l e s m args below meth c F H locs A hz hH hS hl)
theorem r_swIn {dflt lo hi : Int} {offs : Array Int} {len : Nat} {x : Int32} {off : Int} (tgt : Nat) (d : decode M.2.1 pc = .ok (.tableswitch dflt lo hi offs, len)) (h1 : ¬ x.toInt < lo) (h2 : ¬ hi < x.toInt) (ho : offs[(x.toInt - lo).toNat]? = some off) (ht : (pc : Int) + off = (tgt : Int)) (k : J v M R K t0 cells slots h top tgt ls st) : J v M R K t0 cells slots h top pc ls (.int x :: st) := by
  intro p l e s m args below meth c F H locs A hz hH hS hl
  exact lv_tableIn F.1 F.2.1 d h1 h2 ho ht (k p l e s m args below meth c F H locs A hz hH hS hl)
theorem r_ldcI {idx : Nat} {x : Int32} (d : decode M.2.1 pc = .ok (.ldc idx, 2)) (hw : Cond.constant M.1.cls idx x ∈ big) (k : J v M R K t0 cells slots h top (pc + 2) ls (.int x :: st)) : J v M R K t0 cells slots h top pc ls st := by
  intro p l e s m args below meth c F H locs A hz hH hS hl
  exact lv_ldc F.1 F.2.1 F.2.2.2.1 (F.2.2.2.2.1 _ hw) d (k p l e s m args below meth c F H locs A hz hH hS hl)
theorem r_ldcwI {idx : Nat} {x : Int32} (d : decode M.2.1 pc = .ok (.ldc_w idx, 3)) (hw : Cond.constant M.1.cls idx x ∈ big) (k : J v M R K t0 cells slots h top (pc + 3) ls (.int x :: st)) : J v M R K t0 cells slots h top pc ls st := by
  intro p l e s m args below meth c F H locs A hz hH hS hl
  exact lv_ldcw F.1 F.2.1 F.2.2.2.1 (F.2.2.2.2.1 _ hw) d (k p l e s m args below meth c F H locs A hz hH hS hl)
theorem r_ldc2 {idx : Nat} {x : Int64} (d : decode M.2.1 pc = .ok (.ldc2_w idx, 3)) (hw : Cond.constantLong M.1.cls idx x ∈ big) (k : J v M R K t0 cells slots h top (pc + 3) ls (.long x :: st)) : J v M R K t0 cells slots h top pc ls st := by
  intro p l e s m args below meth c F H locs A hz hH hS hl
  exact lv_ldc2 F.1 F.2.1 F.2.2.2.1 (F.2.2.2.2.1 _ hw) d (k p l e s m args below meth c F H locs A hz hH hS hl)
/-- fewer locals known -/
theorem r_sub (ls2 : List (Option Value)) (hs : ∀ (i : Nat) (w : Value), ls2[i]? = some (some w) → ls[i]? = some (some w)) (k : J v M R K t0 cells slots h top pc ls2 st) : J v M R K t0 cells slots h top pc ls st := by
  intro p l e s m args below meth c F H locs A hz hH hS hl
  exact k p l e s m args below meth c F H locs A hz hH hS ⟨hl.1, hl.2.1, fun i w hw => hl.2.2 i w (hs i w hw)⟩
theorem r_lt {a : Nat} {e : va_E} (ha : h a = some e) (k : z0 v ≤ a → a < top → J v M R K t0 cells slots h top pc ls st) : J v M R K t0 cells slots h top pc ls st := by
  intro p l e9 s m args below meth c F H locs A hz hH hS hl
  exact k (hH a e ha).1 (by rw [← hz]; exact hH.lt ha) p l e9 s m args below meth c F H locs A hz hH hS hl
theorem r_widen {c2 s2 : Nat} (h1 : cells ≤ c2) (h2 : slots ≤ s2) (k : J v M R K t0 c2 s2 h top pc ls st) : J v M R K t0 cells slots h top pc ls st := by
  intro p l e s m args below meth c F H locs A hz hH hS hl
  exact W.widen h1 h2 (k p l e s m args below meth c F H locs A hz hH hS hl)
/-- a picture of the heap that says less -/
theorem r_less {h2 : Hp} (hs : ∀ (a : Nat) (e : va_E), h2 a = some e → h a = some e) (k : J v M R K t0 cells slots h2 top pc ls st) : J v M R K t0 cells slots h top pc ls st := by
  intro p l e s m args below meth c F H locs A hz hH hS hl
  exact k p l e s m args below meth c F H locs A hz (fun a x hx => hH a x (hs a x hx)) hS hl
end JR
end
section
/-! ===== J rows: fields, arrays, new cells, calls, ends, throws ===== -/
/-- a class of the worlds, with its tables -/
def Clk (ci : Nat) (C : String) (T : u_T) (N : Nat) (ty : Nat → FieldType) : Prop :=
  vwCl[ci]? = some (C, T, N) ∧ (∀ w ∈ u_ws C T N, w ∈ big) ∧ (∀ k, k < N → parseFieldDescriptor (T k).2.2.1 = some (ty k)) ∧ (∀ a, a < N → ∀ b, b < N → a ≠ b → (T a).2.1 ≠ (T b).2.1)
/-- the pool's place idx of the class own is the field k of the class ci -/
def Gf (own : String) (idx ci k : Nat) : Prop := ∃ (C : String) (T : u_T) (N : Nat) (ty : Nat → FieldType), Clk ci C T N ty ∧ k < N ∧
  (Cond.fieldLink own idx (T k).1 (T k).2.1 (T k).2.2.1 ∈ big ∨ ∃ host, Cond.fieldLinkNest own idx (T k).1 (T k).2.1 (T k).2.2.1 host ∈ lw_tbl)
def Pf (own : String) (idx ci k : Nat) (t : FieldType) : Prop := ∃ (C : String) (T : u_T) (N : Nat) (ty : Nat → FieldType), Clk ci C T N ty ∧ k < N ∧
  (Cond.fieldLink own idx (T k).1 (T k).2.1 (T k).2.2.1 ∈ big ∨ ∃ host, Cond.fieldLinkNest own idx (T k).1 (T k).2.1 (T k).2.2.1 host ∈ lw_tbl) ∧ (T k).2.2.2 = false ∧ parseFieldDescriptor (T k).2.2.1 = some t
def Pff (own : String) (idx ci k : Nat) (t : FieldType) : Prop := ∃ (C : String) (T : u_T) (N : Nat) (ty : Nat → FieldType), Clk ci C T N ty ∧ k < N ∧
  Cond.fieldLink own idx (T k).1 (T k).2.1 (T k).2.2.1 ∈ big ∧ (T k).2.2.2 = true ∧ (T k).1 = own ∧ parseFieldDescriptor (T k).2.2.1 = some t
theorem va_P1 {D : va_G} {cl : List vw_C} {q : Nat × va_E} {H : Heap} (h : va_at D cl q H) : va_P D cl [q] H := by
  intro k x hk
  match k, hk with
  | 0, hk => cases hk; exact h
theorem in_nI {x : Int32} {i n : Nat} (hx : x = nI i) (hn : i < n) (hN : n ≤ 2147483647) : vp_in x n ∧ x.toNatClampNeg = i := by
  subst hx
  exact ⟨vp_in_nI hn (by omega), nI_clamp (by omega)⟩
section JH
variable {v : Ev} {M : Md} {R : Room} {K : List Frame → Array Value → State → State → Prop} {t0 cells slots : Nat} {h : Hp} {top pc : Nat} {ls : List (Option Value)} {st : List Value}
theorem Fx.ht {p : Program} {l : Launch} {s : State} {m : MethodId} {args : Array Value} {meth : Method} {c : Code} (F : Fx v M t0 p l s m args meth c) : ∀ w ∈ big, w.before args s = true := F.2.2.2.2.1
theorem Fx.bs {p : Program} {l : Launch} {s : State} {m : MethodId} {args : Array Value} {meth : Method} {c : Code} (F : Fx v M t0 p l s m args meth c) : Bs v s := F.2.2.2.2.2.2.2.2.1
theorem Fx.nest {p : Program} {l : Launch} {s : State} {m : MethodId} {args : Array Value} {meth : Method} {c : Code} (F : Fx v M t0 p l s m args meth c) {w : Cond} (hw : w ∈ lw_tbl) (hk : nwk w = true) : w.before args s = true := va_Nw.use (nwk_on hk) (F.bs.2.1.1 w hw hk)
theorem Fx.z {p : Program} {l : Launch} {s : State} {m : MethodId} {args : Array Value} {meth : Method} {c : Code} (F : Fx v M t0 p l s m args meth c) : z0 v ≤ s.heap.size := by
  obtain ⟨-, -, -, -, -, -, -, -, -, h1, h2, -⟩ := F
  omega
theorem Fx.old {p : Program} {l : Launch} {s : State} {m : MethodId} {args : Array Value} {meth : Method} {c : Code} (F : Fx v M t0 p l s m args meth c) : Old v s s.heap := F.bs.2.2
theorem r_get {a idx k : Nat} {ci : Nat} {fs : List Value} {w : Value} (d : decode M.2.1 pc = .ok (.getfield idx, 3)) (g : Gf M.1.cls idx ci k) (hh : h a = some (ob ci fs)) (hv : fs[k]? = some w)
    (kk : J v M R K t0 cells slots h top (pc + 3) ls (w :: st)) : J v M R K t0 cells slots h top pc ls (.ref a :: st) := by
  intro p l e s m args below meth c F H locs A hz hH hS hl
  obtain ⟨C, T, N, ty, ⟨hc, hin, -, -⟩, hk, hlk⟩ := g
  have hP := va_P1 (hH a _ hh).2
  rcases hlk with hlk | ⟨host, hlk⟩
  · exact va_get F.1 F.2.1 F.ht hin F.2.2.2.1 F.bs.1 hP 0 rfl hc k hk (F.ht _ hlk) (fun _ q => q) hv d (kk p l e s m args below meth c F H locs A hz hH hS hl)
  · exact va_getN F.1 F.2.1 F.ht hin F.2.2.2.1 F.bs.1 hP 0 rfl hc k hk (F.nest hlk rfl) (fun _ q => q) hv d (kk p l e s m args below meth c F H locs A hz hH hS hl)
theorem r_put {a idx k ci : Nat} {fs : List Value} {w : Value} {t : FieldType} (d : decode M.2.1 pc = .ok (.putfield idx, 3)) (g : Pf M.1.cls idx ci k t) (hh : h a = some (ob ci fs)) (hlen : k < fs.length) (hn : narrow t w = w) (hf : fits t w = true)
    (kk : J v M R K t0 cells slots (hp h a (ob ci (fs.set k w))) top (pc + 3) ls st) : J v M R K t0 cells slots h top pc ls (w :: .ref a :: st) := by
  intro p l e s m args below meth c F H locs A hz hH hS hl
  obtain ⟨C, T, N, ty, ⟨hc, hin, hty, hnm⟩, hk, hlk, hfin, hd⟩ := g
  have hts := F.ht
  have hap := va_apart (own := M.1.cls) hts hin ty hty hnm F.bs.1 hc
  obtain ⟨hz0, r, h1, cell, q1, q2, q3, q4⟩ := hH a _ hh
  have hr : r = (C, T, N) := Option.some.inj (h1.symm.trans hc)
  subst hr
  obtain ⟨hSl, hfc, kC, hkC, hkind⟩ := F.bs.1.1 ci _ hc
  obtain ⟨cf, kf, fi, f, hi, hsl⟩ := hSl k hk
  have hlay := hts _ (hin _ (u_in_lay hk))
  unfold u_lay at hlay
  rw [if_neg (by rw [hfin]; decide)] at hlay
  have hst := (u_facts hfc hkC (u_lays hts hin hk) hi).1
  have h6 := u_store hfc hkC hkind hlay hi hd hn hf
  rcases hlk with hlk | ⟨host, hlk⟩
  · refine W.putK F.1 F.2.1 (f := f) ⟨F.2.2.2.1, hts _ hlk, ⟨_, _, _, hi⟩, hst⟩ (by rw [q2]; exact h6) q1 q3 (by rw [hsl]; exact k2_hasslot (q4 k hk)) rfl rfl d fun H1 e1 e2 e3 => ?_
    rw [hsl] at e1 ⊢
    exact kk p l e s m args below meth c F H1 _ A (e2.trans hz) (hH.set hz0 ⟨_, hc, t_OB.to (V := updV (vp_V fs) k w) ⟨_, e1, q2, q3, t_set q4 hap hk w⟩ (fun j _ => vp_updV_set hlen w j)⟩ e3) (hS.put e2 e3 hz0) hl
  · refine va_WputK F.1 F.2.1 (f := f) F.2.2.2.1 (F.nest hlk rfl) hi hst (by rw [q2]; exact h6) q1 q3 (by rw [hsl]; exact k2_hasslot (q4 k hk)) rfl rfl d fun H1 e1 e2 e3 => ?_
    rw [hsl] at e1 ⊢
    exact kk p l e s m args below meth c F H1 _ A (e2.trans hz) (hH.set hz0 ⟨_, hc, t_OB.to (V := updV (vp_V fs) k w) ⟨_, e1, q2, q3, t_set q4 hap hk w⟩ (fun j _ => vp_updV_set hlen w j)⟩ e3) (hS.put e2 e3 hz0) hl
theorem r_putF {a idx k ci : Nat} {fs : List Value} {w : Value} {t : FieldType} (d : decode M.2.1 pc = .ok (.putfield idx, 3)) (g : Pff M.1.cls idx ci k t) (hini : M.1.name = "<init>") (hh : h a = some (ob ci fs)) (hlen : k < fs.length) (hn : narrow t w = w) (hf : fits t w = true)
    (kk : J v M R K t0 cells slots (hp h a (ob ci (fs.set k w))) top (pc + 3) ls st) : J v M R K t0 cells slots h top pc ls (w :: .ref a :: st) := by
  intro p l e s m args below meth c F H locs A hz hH hS hl
  obtain ⟨C, T, N, ty, ⟨hc, hin, hty, hnm⟩, hk, hlk, hfin, hdecl, hd⟩ := g
  have hts := F.ht
  have hap := va_apart (own := M.1.cls) hts hin ty hty hnm F.bs.1 hc
  obtain ⟨hz0, r, h1, cell, q1, q2, q3, q4⟩ := hH a _ hh
  have hr : r = (C, T, N) := Option.some.inj (h1.symm.trans hc)
  subst hr
  obtain ⟨hSl, hfc, kC, hkC, hkind⟩ := F.bs.1.1 ci _ hc
  obtain ⟨cf, kf, fi, f, hi, hsl⟩ := hSl k hk
  have hlay := hts _ (hin _ (u_in_lay hk))
  unfold u_lay at hlay
  rw [if_pos hfin] at hlay
  have hst := (u_facts hfc hkC (u_lays hts hin hk) hi).1
  have hcf : m.cls = cf := by
    obtain ⟨_, _, c', _, _, _, -, -, hf', -, -, -, hown2, -⟩ := Cond.laysFinal_spec hlay
    have e1 : c' = cf := by have := hi.symm.trans hf'; simp at this; exact this.1.symm
    rw [hdecl] at hown2
    rw [← e1]; exact Option.some.inj (F.2.2.2.1.symm.trans hown2)
  have hnam : meth.name = "<init>" := by
    obtain ⟨-, -, -, -, -, -, -, -, -, -, -, h1, -⟩ := F
    rw [h1, hini]
  have h6 := u_fits hfc hkC hkind (Or.inr hlay) hi hd hn hf
  refine W.putFinK F.1 F.2.1 F.2.2.2.1 (hts _ hlk) hi hst hcf hnam (by rw [q2]; exact h6) q1 q3 (by rw [hsl]; exact k2_hasslot (q4 k hk)) rfl rfl d fun H1 e1 e2 e3 => ?_
  rw [hsl] at e1 ⊢
  exact kk p l e s m args below meth c F H1 _ A (e2.trans hz) (hH.set hz0 ⟨_, hc, t_OB.to (V := updV (vp_V fs) k w) ⟨_, e1, q2, q3, t_set q4 hap hk w⟩ (fun j _ => vp_updV_set hlen w j)⟩ e3) (hS.put e2 e3 hz0) hl
theorem r_iald {a n : Nat} {f : Nat → Int32} {x : Int32} (d : decode M.2.1 pc = .ok (.iaload, 1)) (hh : h a = some (aI v n f)) (i : Nat) (hx : x = nI i) (hn : i < n) (hN : n ≤ 2147483647) (kk : J v M R K t0 cells slots h top (pc + 1) ls (.int (f i) :: st)) : J v M R K t0 cells slots h top pc ls (.int x :: .ref a :: st) := by
  intro p l e s m args below meth c F H locs A hz hH hS hl
  obtain ⟨h1, h2⟩ := in_nI hx hn hN
  exact va_iald F.1 F.2.1 F.bs.1 (va_P1 (hH a _ hh).2) 0 0 rfl rfl h1 d (by rw [h2]; exact kk p l e s m args below meth c F H locs A hz hH hS hl)
theorem r_lald {a n : Nat} {f : Nat → Int64} {x : Int32} (d : decode M.2.1 pc = .ok (.laload, 1)) (hh : h a = some (aJ v n f)) (i : Nat) (hx : x = nI i) (hn : i < n) (hN : n ≤ 2147483647) (kk : J v M R K t0 cells slots h top (pc + 1) ls (.long (f i) :: st)) : J v M R K t0 cells slots h top pc ls (.int x :: .ref a :: st) := by
  intro p l e s m args below meth c F H locs A hz hH hS hl
  obtain ⟨h1, h2⟩ := in_nI hx hn hN
  exact va_lald F.1 F.2.1 F.bs.1 (va_P1 (hH a _ hh).2) 0 1 rfl rfl h1 d (by rw [h2]; exact kk p l e s m args below meth c F H locs A hz hH hS hl)
theorem r_fald {a n : Nat} {f : Nat → UInt32} {x : Int32} (d : decode M.2.1 pc = .ok (.faload, 1)) (hh : h a = some (aF v n f)) (i : Nat) (hx : x = nI i) (hn : i < n) (hN : n ≤ 2147483647) (kk : J v M R K t0 cells slots h top (pc + 1) ls (.float (f i) :: st)) : J v M R K t0 cells slots h top pc ls (.int x :: .ref a :: st) := by
  intro p l e s m args below meth c F H locs A hz hH hS hl
  obtain ⟨h1, h2⟩ := in_nI hx hn hN
  exact va_fald F.1 F.2.1 F.bs.1 (va_P1 (hH a _ hh).2) 0 2 rfl rfl h1 d (by rw [h2]; exact kk p l e s m args below meth c F H locs A hz hH hS hl)
theorem r_zald {a n : Nat} {f : Nat → Int32} {x : Int32} (d : decode M.2.1 pc = .ok (.baload, 1)) (hh : h a = some (aZ v n f)) (i : Nat) (hx : x = nI i) (hn : i < n) (hN : n ≤ 2147483647) (kk : J v M R K t0 cells slots h top (pc + 1) ls (.int (f i) :: st)) : J v M R K t0 cells slots h top pc ls (.int x :: .ref a :: st) := by
  intro p l e s m args below meth c F H locs A hz hH hS hl
  obtain ⟨h1, h2⟩ := in_nI hx hn hN
  exact va_zald F.1 F.2.1 F.bs.1 (va_P1 (hH a _ hh).2) 0 4 rfl rfl h1 d (by rw [h2]; exact kk p l e s m args below meth c F H locs A hz hH hS hl)
theorem r_bald {a n : Nat} {f : Nat → Int32} {x : Int32} (d : decode M.2.1 pc = .ok (.baload, 1)) (hh : h a = some (aB v n f)) (i : Nat) (hx : x = nI i) (hn : i < n) (hN : n ≤ 2147483647) (kk : J v M R K t0 cells slots h top (pc + 1) ls (.int (f i) :: st)) : J v M R K t0 cells slots h top pc ls (.int x :: .ref a :: st) := by
  intro p l e s m args below meth c F H locs A hz hH hS hl
  obtain ⟨h1, h2⟩ := in_nI hx hn hN
  exact va_bald F.1 F.2.1 F.bs.1 (va_P1 (hH a _ hh).2) 0 3 rfl rfl h1 d (by rw [h2]; exact kk p l e s m args below meth c F H locs A hz hH hS hl)
theorem r_iast {a n : Nat} {f : Nat → Int32} {x : Int32} {w : Int32} (d : decode M.2.1 pc = .ok (.iastore, 1)) (hh : h a = some (aI v n f)) (i : Nat) (hx : x = nI i) (hn : i < n) (hN : n ≤ 2147483647) (kk : J v M R K t0 cells slots (hp h a (aI v n (upd f i (w)))) top (pc + 1) ls st) : J v M R K t0 cells slots h top pc ls (.int w :: .int x :: .ref a :: st) := by
  intro p l e s m args below meth c F H locs A hz hH hS hl
  obtain ⟨h1, h2⟩ := in_nI hx hn hN
  obtain ⟨hz0, hat⟩ := hH a _ hh
  refine W.iast F.1 F.2.1 (show H[a]? = some (arrV (cA v 0) n (fun j => .int (f j))) from hat) ((F.bs.1.2 0 _ rfl).1 n (fun j => .int (f j))) (fun q => by cases q) (by rw [arrV_size]; exact h1) rfl rfl d fun H1 e1 z1 oq => ?_
  refine kk p l e s m args below meth c F H1 _ A (z1.trans hz) (hH.set hz0 ?_ oq) (hS.put z1 oq hz0) hl
  show H1[a]? = some (arrV (cA v 0) n (fun j => .int (upd f i (w) j)))
  rw [e1, arrV_store, h2]
  congr 2
  funext q
  by_cases hq : q = i
  · subst hq
    simp [updV, upd]
  · simp [updV, upd, hq]
theorem r_last {a n : Nat} {f : Nat → Int64} {x : Int32} {w : Int64} (d : decode M.2.1 pc = .ok (.lastore, 1)) (hh : h a = some (aJ v n f)) (i : Nat) (hx : x = nI i) (hn : i < n) (hN : n ≤ 2147483647) (kk : J v M R K t0 cells slots (hp h a (aJ v n (vp_updL f i (w)))) top (pc + 1) ls st) : J v M R K t0 cells slots h top pc ls (.long w :: .int x :: .ref a :: st) := by
  intro p l e s m args below meth c F H locs A hz hH hS hl
  obtain ⟨h1, h2⟩ := in_nI hx hn hN
  obtain ⟨hz0, hat⟩ := hH a _ hh
  refine W.last F.1 F.2.1 (show H[a]? = some (arrV (cA v 1) n (fun j => .long (f j))) from hat) ((F.bs.1.2 1 _ rfl).1 n (fun j => .long (f j))) (fun q => by cases q) (by rw [arrV_size]; exact h1) rfl rfl d fun H1 e1 z1 oq => ?_
  refine kk p l e s m args below meth c F H1 _ A (z1.trans hz) (hH.set hz0 ?_ oq) (hS.put z1 oq hz0) hl
  show H1[a]? = some (arrV (cA v 1) n (fun j => .long (vp_updL f i (w) j)))
  rw [e1, arrV_store, h2]
  congr 2
  funext q
  by_cases hq : q = i
  · subst hq
    simp [updV, vp_updL]
  · simp [updV, vp_updL, hq]
theorem r_fast {a n : Nat} {f : Nat → UInt32} {x : Int32} {w : UInt32} (d : decode M.2.1 pc = .ok (.fastore, 1)) (hh : h a = some (aF v n f)) (i : Nat) (hx : x = nI i) (hn : i < n) (hN : n ≤ 2147483647) (kk : J v M R K t0 cells slots (hp h a (aF v n (vf_upd f i (w)))) top (pc + 1) ls st) : J v M R K t0 cells slots h top pc ls (.float w :: .int x :: .ref a :: st) := by
  intro p l e s m args below meth c F H locs A hz hH hS hl
  obtain ⟨h1, h2⟩ := in_nI hx hn hN
  obtain ⟨hz0, hat⟩ := hH a _ hh
  refine W.fast F.1 F.2.1 (show H[a]? = some (arrV (cA v 2) n (fun j => .float (f j))) from hat) ((F.bs.1.2 2 _ rfl).1 n (fun j => .float (f j))) (fun q => by cases q) (by rw [arrV_size]; exact h1) rfl rfl d fun H1 e1 z1 oq => ?_
  refine kk p l e s m args below meth c F H1 _ A (z1.trans hz) (hH.set hz0 ?_ oq) (hS.put z1 oq hz0) hl
  show H1[a]? = some (arrV (cA v 2) n (fun j => .float (vf_upd f i (w) j)))
  rw [e1, arrV_store, h2]
  congr 2
  funext q
  by_cases hq : q = i
  · subst hq
    simp [updV, vf_upd]
  · simp [updV, vf_upd, hq]
theorem r_zast {a n : Nat} {f : Nat → Int32} {x : Int32} {w : Int32} (d : decode M.2.1 pc = .ok (.bastore, 1)) (hh : h a = some (aZ v n f)) (i : Nat) (hx : x = nI i) (hn : i < n) (hN : n ≤ 2147483647) (kk : J v M R K t0 cells slots (hp h a (aZ v n (upd f i (vp_nar .boolean w)))) top (pc + 1) ls st) : J v M R K t0 cells slots h top pc ls (.int w :: .int x :: .ref a :: st) := by
  intro p l e s m args below meth c F H locs A hz hH hS hl
  obtain ⟨h1, h2⟩ := in_nI hx hn hN
  obtain ⟨hz0, hat⟩ := hH a _ hh
  refine W.zast F.1 F.2.1 (show H[a]? = some (arrV (cA v 4) n (fun j => .int (f j))) from hat) ((F.bs.1.2 4 _ rfl).1 n (fun j => .int (f j))) (fun q => by cases q) (by rw [arrV_size]; exact h1) rfl rfl d fun H1 e1 z1 oq => ?_
  refine kk p l e s m args below meth c F H1 _ A (z1.trans hz) (hH.set hz0 ?_ oq) (hS.put z1 oq hz0) hl
  show H1[a]? = some (arrV (cA v 4) n (fun j => .int (upd f i (vp_nar .boolean w) j)))
  rw [e1, arrV_store, h2]
  congr 2
  funext q
  by_cases hq : q = i
  · subst hq
    simp [updV, upd, vp_nar]
    try rfl
  · simp [updV, upd, hq]
theorem r_bast {a n : Nat} {f : Nat → Int32} {x : Int32} {w : Int32} (d : decode M.2.1 pc = .ok (.bastore, 1)) (hh : h a = some (aB v n f)) (i : Nat) (hx : x = nI i) (hn : i < n) (hN : n ≤ 2147483647) (kk : J v M R K t0 cells slots (hp h a (aB v n (upd f i (vp_nar .byte w)))) top (pc + 1) ls st) : J v M R K t0 cells slots h top pc ls (.int w :: .int x :: .ref a :: st) := by
  intro p l e s m args below meth c F H locs A hz hH hS hl
  obtain ⟨h1, h2⟩ := in_nI hx hn hN
  obtain ⟨hz0, hat⟩ := hH a _ hh
  refine W.bast F.1 F.2.1 (show H[a]? = some (arrV (cA v 3) n (fun j => .int (f j))) from hat) ((F.bs.1.2 3 _ rfl).1 n (fun j => .int (f j))) (fun q => by cases q) (by rw [arrV_size]; exact h1) rfl rfl d fun H1 e1 z1 oq => ?_
  refine kk p l e s m args below meth c F H1 _ A (z1.trans hz) (hH.set hz0 ?_ oq) (hS.put z1 oq hz0) hl
  show H1[a]? = some (arrV (cA v 3) n (fun j => .int (upd f i (vp_nar .byte w) j)))
  rw [e1, arrV_store, h2]
  congr 2
  funext q
  by_cases hq : q = i
  · subst hq
    simp [updV, upd, vp_nar]
    try rfl
  · simp [updV, upd, hq]
theorem r_alenI {a n : Nat} {f : Nat → Int32} (d : decode M.2.1 pc = .ok (.arraylength, 1)) (hh : h a = some (aI v n f)) (kk : J v M R K t0 cells slots h top (pc + 1) ls (.int (nI n) :: st)) : J v M R K t0 cells slots h top pc ls (.ref a :: st) := by
  intro p l e s m args below meth c F H locs A hz hH hS hl
  exact va_alen F.1 F.2.1 F.bs.1 (va_P1 (hH a _ hh).2) 0 0 rfl rfl rfl d (kk p l e s m args below meth c F H locs A hz hH hS hl)
theorem r_alenJ {a n : Nat} {f : Nat → Int64} (d : decode M.2.1 pc = .ok (.arraylength, 1)) (hh : h a = some (aJ v n f)) (kk : J v M R K t0 cells slots h top (pc + 1) ls (.int (nI n) :: st)) : J v M R K t0 cells slots h top pc ls (.ref a :: st) := by
  intro p l e s m args below meth c F H locs A hz hH hS hl
  exact va_alen F.1 F.2.1 F.bs.1 (va_P1 (hH a _ hh).2) 0 1 rfl rfl rfl d (kk p l e s m args below meth c F H locs A hz hH hS hl)
theorem r_alenB {a n : Nat} {f : Nat → Int32} (d : decode M.2.1 pc = .ok (.arraylength, 1)) (hh : h a = some (aB v n f)) (kk : J v M R K t0 cells slots h top (pc + 1) ls (.int (nI n) :: st)) : J v M R K t0 cells slots h top pc ls (.ref a :: st) := by
  intro p l e s m args below meth c F H locs A hz hH hS hl
  exact va_alen F.1 F.2.1 F.bs.1 (va_P1 (hH a _ hh).2) 0 3 rfl rfl rfl d (kk p l e s m args below meth c F H locs A hz hH hS hl)
theorem r_iald1 {x : Int32} (d : decode M.2.1 pc = .ok (.iaload, 1)) (hx : x = nI 0) (kk : J v M R K t0 cells slots h top (pc + 1) ls (.int 1 :: st)) : J v M R K t0 cells slots h top pc ls (.int x :: .ref (oA v 0) :: st) := by
  intro p l e s m args below meth c F H locs A hz hH hS hl
  obtain ⟨h1, h2⟩ := in_nI (n := 1) hx (by omega) (by omega)
  exact va_ti F.1 F.2.1 F.old.2.1 hS h1 rfl d (kk p l e s m args below meth c F H locs A hz hH hS hl)
theorem r_alen1 (d : decode M.2.1 pc = .ok (.arraylength, 1)) (kk : J v M R K t0 cells slots h top (pc + 1) ls (.int (nI 1) :: st)) : J v M R K t0 cells slots h top pc ls (.ref (oA v 0) :: st) := by
  intro p l e s m args below meth c F H locs A hz hH hS hl
  exact va_tlen F.1 F.2.1 F.old.2.1 hS rfl d (kk p l e s m args below meth c F H locs A hz hH hS hl)
theorem r_getCost {idx : Nat} {host : String} (d : decode M.2.1 pc = .ok (.getstatic idx, 3)) (hw : Cond.fieldLinkNest M.1.cls idx "RandomWalks" "COST_ONE" "[I" host ∈ lw_tbl) (kk : J v M R K t0 cells slots h top (pc + 3) ls (.ref (oA v 0) :: st)) : J v M R K t0 cells slots h top pc ls st := by
  intro p l e s m args below meth c F H locs A hz hH hS hl
  exact va_getsN F.1 F.2.1 F.old.1 hS F.2.2.2.1 (F.nest hw rfl) (fun _ q => q) d (kk p l e s m args below meth c F H locs A hz hH hS hl)
theorem r_newaI {x : Int32} (n : Nat) (d : decode M.2.1 pc = .ok (.newarray .int, 2)) (hx : x = nI n) (hn : n ≤ 65536) (hw : Cond.arrayClass .int ∈ big) (hc : cells + 1 ≤ R.cells) (hs : slots + n ≤ R.slots)
    (kk : h top = none → J v M R K t0 (cells + 1) (slots + n) (hp h top (aI v n (fun _ => 0))) (top + 1) (pc + 2) ls (.ref top :: st)) : J v M R K t0 cells slots h top pc ls (.int x :: st) := by
  intro p l e s m args below meth c F H locs A hz hH hS hl
  subst hz
  have hfr : h H.size = none := by
    cases q : h H.size with
    | none => rfl
    | some e9 => exact absurd (hH.lt q) (Nat.lt_irrefl _)
  have h0 : z0 v ≤ H.size := Nat.le_trans F.z hS.1
  refine va_newaK F.1 F.2.1 (atype := .int) (F.ht _ hw) rfl d rfl (by rw [hx]; exact nI_pos (by omega)) (N := n) (by rw [hx]; exact nI_clamp (by omega)) (by show n * 4 ≤ 536870912; omega) hc hs rfl fun H1 cA1 e1 z1 o1 hAr hNm => ?_
  have hcA : cA1 = cA v 0 := Option.some.inj (hNm.symm.trans (F.bs.1.2 0 _ rfl).2)
  subst hcA
  exact kk hfr p l e s m args below meth c F H1 locs A (by omega) (hH.new h0 (show H1[H.size]? = some (arrV (cA v 0) n (fun _ => defaultValue .int)) from e1) o1) ⟨Nat.le_trans hS.1 (by omega), fun x h1 h2 => (o1 x (Nat.lt_of_lt_of_le h1 hS.1)).trans (hS.2.1 x h1 h2), hS.2.2⟩ hl
theorem r_newaJ {x : Int32} (n : Nat) (d : decode M.2.1 pc = .ok (.newarray .long, 2)) (hx : x = nI n) (hn : n ≤ 65536) (hw : Cond.arrayClass .long ∈ big) (hc : cells + 1 ≤ R.cells) (hs : slots + n ≤ R.slots)
    (kk : h top = none → J v M R K t0 (cells + 1) (slots + n) (hp h top (aJ v n (fun _ => 0))) (top + 1) (pc + 2) ls (.ref top :: st)) : J v M R K t0 cells slots h top pc ls (.int x :: st) := by
  intro p l e s m args below meth c F H locs A hz hH hS hl
  subst hz
  have hfr : h H.size = none := by
    cases q : h H.size with
    | none => rfl
    | some e9 => exact absurd (hH.lt q) (Nat.lt_irrefl _)
  have h0 : z0 v ≤ H.size := Nat.le_trans F.z hS.1
  refine va_newaK F.1 F.2.1 (atype := .long) (F.ht _ hw) rfl d rfl (by rw [hx]; exact nI_pos (by omega)) (N := n) (by rw [hx]; exact nI_clamp (by omega)) (by show n * 8 ≤ 536870912; omega) hc hs rfl fun H1 cA1 e1 z1 o1 hAr hNm => ?_
  have hcA : cA1 = cA v 1 := Option.some.inj (hNm.symm.trans (F.bs.1.2 1 _ rfl).2)
  subst hcA
  exact kk hfr p l e s m args below meth c F H1 locs A (by omega) (hH.new h0 (show H1[H.size]? = some (arrV (cA v 1) n (fun _ => defaultValue .long)) from e1) o1) ⟨Nat.le_trans hS.1 (by omega), fun x h1 h2 => (o1 x (Nat.lt_of_lt_of_le h1 hS.1)).trans (hS.2.1 x h1 h2), hS.2.2⟩ hl
theorem r_newaF {x : Int32} (n : Nat) (d : decode M.2.1 pc = .ok (.newarray .float, 2)) (hx : x = nI n) (hn : n ≤ 65536) (hw : Cond.arrayClass .float ∈ big) (hc : cells + 1 ≤ R.cells) (hs : slots + n ≤ R.slots)
    (kk : h top = none → J v M R K t0 (cells + 1) (slots + n) (hp h top (aF v n (fun _ => 0))) (top + 1) (pc + 2) ls (.ref top :: st)) : J v M R K t0 cells slots h top pc ls (.int x :: st) := by
  intro p l e s m args below meth c F H locs A hz hH hS hl
  subst hz
  have hfr : h H.size = none := by
    cases q : h H.size with
    | none => rfl
    | some e9 => exact absurd (hH.lt q) (Nat.lt_irrefl _)
  have h0 : z0 v ≤ H.size := Nat.le_trans F.z hS.1
  refine va_newaK F.1 F.2.1 (atype := .float) (F.ht _ hw) rfl d rfl (by rw [hx]; exact nI_pos (by omega)) (N := n) (by rw [hx]; exact nI_clamp (by omega)) (by show n * 4 ≤ 536870912; omega) hc hs rfl fun H1 cA1 e1 z1 o1 hAr hNm => ?_
  have hcA : cA1 = cA v 2 := Option.some.inj (hNm.symm.trans (F.bs.1.2 2 _ rfl).2)
  subst hcA
  exact kk hfr p l e s m args below meth c F H1 locs A (by omega) (hH.new h0 (show H1[H.size]? = some (arrV (cA v 2) n (fun _ => defaultValue .float)) from e1) o1) ⟨Nat.le_trans hS.1 (by omega), fun x h1 h2 => (o1 x (Nat.lt_of_lt_of_le h1 hS.1)).trans (hS.2.1 x h1 h2), hS.2.2⟩ hl
theorem r_newaB {x : Int32} (n : Nat) (d : decode M.2.1 pc = .ok (.newarray .byte, 2)) (hx : x = nI n) (hn : n ≤ 65536) (hw : Cond.arrayClass .byte ∈ big) (hc : cells + 1 ≤ R.cells) (hs : slots + n ≤ R.slots)
    (kk : h top = none → J v M R K t0 (cells + 1) (slots + n) (hp h top (aB v n (fun _ => 0))) (top + 1) (pc + 2) ls (.ref top :: st)) : J v M R K t0 cells slots h top pc ls (.int x :: st) := by
  intro p l e s m args below meth c F H locs A hz hH hS hl
  subst hz
  have hfr : h H.size = none := by
    cases q : h H.size with
    | none => rfl
    | some e9 => exact absurd (hH.lt q) (Nat.lt_irrefl _)
  have h0 : z0 v ≤ H.size := Nat.le_trans F.z hS.1
  refine va_newaK F.1 F.2.1 (atype := .byte) (F.ht _ hw) rfl d rfl (by rw [hx]; exact nI_pos (by omega)) (N := n) (by rw [hx]; exact nI_clamp (by omega)) (by show n * 1 ≤ 536870912; omega) hc hs rfl fun H1 cA1 e1 z1 o1 hAr hNm => ?_
  have hcA : cA1 = cA v 3 := Option.some.inj (hNm.symm.trans (F.bs.1.2 3 _ rfl).2)
  subst hcA
  exact kk hfr p l e s m args below meth c F H1 locs A (by omega) (hH.new h0 (show H1[H.size]? = some (arrV (cA v 3) n (fun _ => defaultValue .byte)) from e1) o1) ⟨Nat.le_trans hS.1 (by omega), fun x h1 h2 => (o1 x (Nat.lt_of_lt_of_le h1 hS.1)).trans (hS.2.1 x h1 h2), hS.2.2⟩ hl
theorem r_newaZ {x : Int32} (n : Nat) (d : decode M.2.1 pc = .ok (.newarray .boolean, 2)) (hx : x = nI n) (hn : n ≤ 65536) (hw : Cond.arrayClass .boolean ∈ big) (hc : cells + 1 ≤ R.cells) (hs : slots + n ≤ R.slots)
    (kk : h top = none → J v M R K t0 (cells + 1) (slots + n) (hp h top (aZ v n (fun _ => 0))) (top + 1) (pc + 2) ls (.ref top :: st)) : J v M R K t0 cells slots h top pc ls (.int x :: st) := by
  intro p l e s m args below meth c F H locs A hz hH hS hl
  subst hz
  have hfr : h H.size = none := by
    cases q : h H.size with
    | none => rfl
    | some e9 => exact absurd (hH.lt q) (Nat.lt_irrefl _)
  have h0 : z0 v ≤ H.size := Nat.le_trans F.z hS.1
  refine va_newaK F.1 F.2.1 (atype := .boolean) (F.ht _ hw) rfl d rfl (by rw [hx]; exact nI_pos (by omega)) (N := n) (by rw [hx]; exact nI_clamp (by omega)) (by show n * 1 ≤ 536870912; omega) hc hs rfl fun H1 cA1 e1 z1 o1 hAr hNm => ?_
  have hcA : cA1 = cA v 4 := Option.some.inj (hNm.symm.trans (F.bs.1.2 4 _ rfl).2)
  subst hcA
  exact kk hfr p l e s m args below meth c F H1 locs A (by omega) (hH.new h0 (show H1[H.size]? = some (arrV (cA v 4) n (fun _ => defaultValue .boolean)) from e1) o1) ⟨Nat.le_trans hS.1 (by omega), fun x h1 h2 => (o1 x (Nat.lt_of_lt_of_le h1 hS.1)).trans (hS.2.1 x h1 h2), hS.2.2⟩ hl
theorem r_anewG {x : Int32} {idx : Nat} (n : Nat) (d : decode M.2.1 pc = .ok (.anewarray idx, 3)) (hx : x = nI n) (hn : n ≤ 65536) (hw : Cond.classLink M.1.cls idx "RandomWalks$Graph" ∈ big) (hc : cells + 1 ≤ R.cells) (hs : slots + n ≤ R.slots)
    (kk : h top = none → J v M R K t0 (cells + 1) (slots + n) (hp h top (aG v n (fun _ => none))) (top + 1) (pc + 3) ls (.ref top :: st)) : J v M R K t0 cells slots h top pc ls (.int x :: st) := by
  intro p l e s m args below meth c F H locs A hz hH hS hl
  subst hz
  have hfr : h H.size = none := by
    cases q : h H.size with
    | none => rfl
    | some e9 => exact absurd (hH.lt q) (Nat.lt_irrefl _)
  have h0 : z0 v ≤ H.size := Nat.le_trans F.z hS.1
  have hcl : x.toNatClampNeg = n := by rw [hx]; exact nI_clamp (by omega)
  refine W.anew F.1 F.2.1 F.2.2.2.1 (F.ht _ hw) (va_AO.use F.bs.2.1.2.2.2.1) rfl d rfl (by rw [hx]; exact nI_pos (by omega)) (by rw [hcl]; omega) hc (by rw [hcl]; exact hs) fun cA1 kA comp f1 f2 f3 f4 => ?_
  rw [hcl]
  generalize hH1 : H.push ({ cls := cA1, slots := Array.replicate n .null, vm := .none } : Cell) = H1
  have z1 : H1.size = H.size + 1 := by rw [← hH1, Array.size_push]
  have e1 : H1[H.size]? = some (arrV cA1 n (fun _ => .null)) := by rw [← hH1, Array.getElem?_push_size, ← arrV_new]
  have o1 : ∀ q : Nat, q < H.size → H1[q]? = H[q]? := fun q hq => by rw [← hH1, Array.getElem?_push, if_neg (Nat.ne_of_lt hq)]
  have hcA : cA1 = cA v 5 := by
    obtain ⟨kA2, comp2, g1, g2, g3, g4⟩ := (F.bs.1.2 5 _ rfl).2
    exact Option.some.inj (f1.symm.trans g4)
  subst hcA
  exact kk hfr p l e s m args below meth c F H1 locs A (by omega) (hH.new h0 (show H1[H.size]? = some (arrV (cA v 5) n (fun _ => .null)) from e1) o1) ⟨Nat.le_trans hS.1 (by omega), fun x h1 h2 => (o1 x (Nat.lt_of_lt_of_le h1 hS.1)).trans (hS.2.1 x h1 h2), hS.2.2⟩ hl
/-- a new object of the class ci: its words -/
def Nw (own : String) (idx ci : Nat) (N : Nat) (fs : List Value) : Prop := ∃ (C : String) (T : u_T) (ty : Nat → FieldType), Clk ci C T N ty ∧ Cond.classLink own idx C ∈ big ∧ Cond.instantiable C N ∈ big ∧ Cond.initialized C ∈ big ∧ ∀ j, j < N → defaultValue (ty j) = vp_V fs j
theorem r_new {idx ci N : Nat} {fs : List Value} (d : decode M.2.1 pc = .ok (.new idx, 3)) (g : Nw M.1.cls idx ci N fs) (hc : cells + 1 ≤ R.cells) (hs : slots + N ≤ R.slots)
    (kk : h top = none → J v M R K t0 (cells + 1) (slots + N) (hp h top (ob ci fs)) (top + 1) (pc + 3) ls (.ref top :: st)) : J v M R K t0 cells slots h top pc ls st := by
  intro p l e s m args below meth c F H locs A hz hH hS hl
  subst hz
  have hfr : h H.size = none := by
    cases q : h H.size with
    | none => rfl
    | some e9 => exact absurd (hH.lt q) (Nat.lt_irrefl _)
  have h0 : z0 v ≤ H.size := Nat.le_trans F.z hS.1
  obtain ⟨C, T, ty, ⟨hci, hin, hty, -⟩, w1, w2, w3, hfs⟩ := g
  have hKn := F.bs.1.1 ci _ hci
  refine W.newcK F.1 F.2.1 F.2.2.2.1 (F.ht _ w1) (F.ht _ w2) (F.ht _ w3) rfl d hc hs hKn.2.1 rfl fun H1 kC hkC e1 z1 o1 => ?_
  exact kk hfr p l e s m args below meth c F H1 locs A (by omega) (hH.new h0 ⟨_, hci, (u_born ty F.ht hin hKn hkC e1 hty).to hfs⟩ o1) ⟨Nat.le_trans hS.1 (by omega), fun x h1 h2 => (o1 x (Nat.lt_of_lt_of_le h1 hS.1)).trans (hS.2.1 x h1 h2), hS.2.2⟩ hl
theorem r_objInit {a idx : Nat} (d : decode M.2.1 pc = .ok (.invokespecial idx, 3)) (hw : Cond.methodLink M.1.cls idx Lib.objectInit ∈ big) (hw2 : Cond.instanceMethod Lib.objectInit ∈ big) (hw3 : Cond.code Lib.objectInit ⟨#[0xb1]⟩ 1 none ∈ big) (hf : 1 ≤ R.frames) (hl2 : (st.map fun w => w.category).sum + 12 ≤ R.locals)
    (kk : J v M R K t0 cells slots h top (pc + 3) ls st) : J v M R K t0 cells slots h top pc ls (.ref a :: st) := by
  intro p l e s m args below meth c F H locs A hz hH hS hl
  exact W.objInit F.1 F.2.1 F.2.2.2.1 (F.ht _ hw) (F.ht _ hw2) (F.ht _ hw3) rfl (hl.1.trans F.2.2.1.symm) rfl d hf (by show 2 * 0 + _ + 12 ≤ _; omega) (kk p l e s m args below meth c F H locs A hz hH hS hl)
theorem r_aald {a n : Nat} {f : Nat → Option Nat} {x : Int32} (d : decode M.2.1 pc = .ok (.aaload, 1)) (hh : h a = some (aG v n f)) (i : Nat) (hx : x = nI i) (hn : i < n) (hN : n ≤ 2147483647) (kk : J v M R K t0 cells slots h top (pc + 1) ls (va_rf (f i) :: st)) : J v M R K t0 cells slots h top pc ls (.int x :: .ref a :: st) := by
  intro p l e s m args below meth c F H locs A hz hH hS hl
  obtain ⟨h1, h2⟩ := in_nI hx hn hN
  exact va_aldq F.1 F.2.1 F.bs.1 (va_P1 (hH a _ hh).2) 0 5 rfl rfl h1 d (by rw [h2]; exact kk p l e s m args below meth c F H locs A hz hH hS hl)
theorem r_aast {a n b : Nat} {f : Nat → Option Nat} {x : Int32} {fs : List Value} (d : decode M.2.1 pc = .ok (.aastore, 1)) (hh : h a = some (aG v n f)) (hb : h b = some (ob 3 fs)) (i : Nat) (hx : x = nI i) (hn : i < n) (hN : n ≤ 2147483647) (kk : J v M R K t0 cells slots (hp h a (aG v n (va_up f i (some b)))) top (pc + 1) ls st) : J v M R K t0 cells slots h top pc ls (.ref b :: .int x :: .ref a :: st) := by
  intro p l e s m args below meth c F H locs A hz hH hS hl
  obtain ⟨h1, h2⟩ := in_nI hx hn hN
  have hlt : x.toNatClampNeg < n := by omega
  have h0 : ¬ x < 0 := fun q => h1 (Or.inl q)
  obtain ⟨hz0, hat⟩ := hH a _ hh
  obtain ⟨-, r', hr', cellV, g1, g2, g3, -⟩ := hH b _ hb
  have hcls := (F.bs.1.1 3 (RX3, TX3, 10) rfl).2
  obtain ⟨kA, comp, k1, k2, k3, -⟩ := (F.bs.1.2 5 _ rfl).2
  have hcomp : comp = v.1.1 3 := Option.some.inj (k3.symm.trans hcls.1)
  subst hcomp
  obtain ⟨kC, hkC, -⟩ := id hcls.2
  refine W.aast F.1 F.2.1 (show H[a]? = some (arrV (cA v 5) n (fun j => va_rf (f j))) from hat) (fun q hq => by cases hq) (fun hq => by cases hq) k1 k2 rfl hkC ⟨h0, by rw [arrV_size]; exact hlt⟩ g1 (fun q hq => by rw [g3] at hq; cases hq) (by rw [g2]; exact hkC) (by rw [g2]; exact va_assign hcls) rfl rfl d fun H1 e1 z1 oq => ?_
  refine kk p l e s m args below meth c F H1 _ A (z1.trans hz) (hH.set hz0 ?_ oq) (hS.put z1 oq hz0) hl
  show H1[a]? = some (arrV (cA v 5) n (fun j => va_rf (va_up f i (some b) j)))
  rw [e1, arrV_store, h2]
  congr 2
  funext q
  by_cases hq : q = i
  · subst hq
    simp [updV, va_up, va_rf]
  · simp [updV, va_up, hq]
end JH
end
section
/-! ===== J rows: calls, ends, throws, the JDK's small ones ===== -/
def MwB (M : Md) (n : Nat) : Prop := cw M ∈ big ∧ Cond.initialized M.1.cls ∈ big ∧ (M.1.cls ≠ "java/lang/invoke/MethodHandle" ∧ M.1.cls ≠ "java/lang/invoke/VarHandle") ∧ (parseMethodDescriptor M.1.desc).map (fun d => d.parameters.length) = some n
def MwV (M : Md) (n : Nat) : Prop := MwB M n ∧ Cond.instanceMethod M.1 ∈ big ∧ Cond.selects M.1.cls M.1 M.1 ∈ big
def MwS (M : Md) (n : Nat) : Prop := MwB M n ∧ Cond.static M.1 ∈ big
def MwI (M : Md) (n : Nat) : Prop := MwB M n ∧ M.1.name = "<init>" ∧ Cond.instanceMethod M.1 ∈ big
/-- what a callee of d' frames asks of the room -/
def Fits (R : Room) (M' : Md) (d' : Nat) : Prop := d' + 1 ≤ R.frames ∧ 8 + (M'.2.2.1 + 11) + 60 * d' ≤ R.locals
theorem good_big {M' : Md} (hc : cw M' ∈ big) : GoodIn big (cw M' :: big) := by
  intro w hw
  have hb : w ∈ big := by
    rcases List.mem_cons.mp hw with h | h
    · rw [h]; exact hc
    · exact h
  exact ⟨hb, good_of_word (big_good hb)⟩
theorem desc_len {M' : Md} {n : Nat} (h : (parseMethodDescriptor M'.1.desc).map (fun d => d.parameters.length) = some n) : ∀ sig, parseMethodDescriptor M'.1.desc = some sig → n = sig.parameters.length := by
  intro sig hs
  rw [hs] at h
  exact (Option.some.inj h).symm
section JC
variable {v : Ev} {M : Md} {R : Room} {K : List Frame → Array Value → State → State → Prop} {t0 cells slots : Nat} {h : Hp} {top pc : Nat} {ls : List (Option Value)} {st : List Value}
theorem J_pre {p : Program} {l : Launch} {s : State} {m : MethodId} {args : Array Value} {meth : Method} {c : Code} (F : Fx v M t0 p l s m args meth c) {H : Heap} {locs : List Loc} (hz : H.size = top) (hH : Hh v h H) (hS : va_S (Ar v) s.heap H locs) {U : State} (hU : U.heap = H) (hW : s.WarmedH U.vm) : Rp v h top U :=
  ⟨F.bs.warm hW (hS.F hU), by rw [hU]; exact hz, by rw [← hz]; exact Nat.le_trans F.z hS.1, by rw [hU]; exact hH⟩
/-- behind a call -/
theorem J_after {p : Program} {l : Launch} {e : Env} {R : Room} {s : State} {m : MethodId} {args : Array Value} {below : List Frame} {meth : Method} {c : Code} {H : Heap} {locs : List Loc} {cells slots : Nat} {Q : State → Prop} {mc ms : Nat} {A : Array Slot} {st0 rest : List Value} {a : Array Value} {Qr : Option Value → Hp → Nat → Prop} {Qx : String → Hp → Nat → Prop}
    (hr : vx_Run p l e R s m args below meth c H locs cells slots mc ms (F0 m pc A st0) rest (Qc v Qr a) (XC v Qx) (Ar v)) (hS : va_S (Ar v) s.heap H locs)
    (k : ∀ (r : Option Value) (h' : Hp) (top' : Nat) (H' : Heap) (locs' : List Loc), Qr r h' top' → H'.size = top' → Hh v h' H' → va_S (Ar v) s.heap H' locs' → W p l e R s m args below meth c H' locs' (cells + mc) (slots + ms) Q (F0 m (pc + 3) A (r.toList ++ rest)))
    (kx : ∀ (E : String) (ce : Cell) (q : Addr) (h' : Hp) (top' : Nat) (H' : Heap) (locs' : List Loc), Qx E h' top' → H'.size = top' → Hh v h' H' → va_S (Ar v) s.heap H' locs' → H'[q]? = some ce → ce.vm = .none → s.vm.findClass E = some ce.cls → vx_W p l e R s m args below meth c H' locs' (cells + mc) (slots + ms) Q (F0 m pc A rest) q) :
    W p l e R s m args below meth c H locs cells slots Q (F0 m pc A st0) := by
  intro T hT X
  rcases hr T hT X with ⟨rv, st₀, t, T', L, g0, X', hL, e1, e2, ⟨⟨r, h', top', hoc, hq, hz', hH'⟩, hF⟩, hgo⟩ | ⟨q, st₀, t, T', L, E, ce, g0, X', hL, e1, e2, ⟨⟨h', top', hq, hz', hH'⟩, hF⟩, hce, hcv, hcl, hgo⟩
  · cases hoc
    obtain ⟨-, -, hS1⟩ := vx_keep g0 e1 hS (fun _ _ x => x) (fun _ x => x) hL hF
    obtain ⟨t2, a1, b1⟩ := k rv h' top' T'.heap (locs ++ L) hq (by rw [e1]; exact hz') (by rw [e1]; exact hH') hS1 T' rfl X'
    exact ⟨t2, hgo t2 a1, b1⟩
  · obtain ⟨-, -, hS1⟩ := vx_keep g0 e1 hS (fun _ _ x => x) (fun _ x => x) hL hF
    obtain ⟨t2, a1, b1⟩ := kx E ce q h' top' T'.heap (locs ++ L) hq (by rw [e1]; exact hz') (by rw [e1]; exact hH') hS1 (by rw [e1]; exact hce) hcv hcl T' rfl X'
    exact ⟨t2, hgo.trans a1, b1⟩
theorem J_callB {M' : Md} {idx n d' mc' ms' : Nat} {p : Program} {l : Launch} {s : State} {m : MethodId} {args : Array Value} {meth : Method} {c : Code} (F : Fx v M t0 p l s m args meth c) (hh : M'.2.2.2.2 = []) (mw : MwB M' n) (hl : Cond.methodLink M.1.cls idx M'.1 ∈ big) (hR : Fits R M' d') :
    CallB R s args M.1.cls idx M'.1 M'.2.1 M'.2.2.1 M'.2.2.2.1 (cw M' :: big) (rmOf d' mc' ms') mc' ms' n := by
  have hc : cw M' = Cond.code M'.1 M'.2.1 M'.2.2.1 M'.2.2.2.1 := by unfold cw; rw [hh]
  obtain ⟨w1, w2, w3, w4⟩ := mw
  refine ⟨rfl, rfl, hR.1, hR.2, pay_in F.ht (good_big w1), by rw [hc]; exact List.mem_cons_self, by rw [← hc]; exact F.ht _ w1, F.ht _ w2, w3, desc_len w4, F.ht _ hl⟩
/-- a call of a method that doesn't throw -/
theorem r_callV {M' : Md} {idx n d' mc' ms' b ci : Nat} {fs As rest : List Value} {r : vw_C} {Qr : Option Value → Hp → Nat → Prop} (d : decode M.2.1 pc = .ok (.invokevirtual idx, 3)) (hl : Cond.methodLink M.1.cls idx M'.1 ∈ big) (hh : M'.2.2.2.2 = []) (mw : MwV M' n) (hR : Fits R M' d')
    (hb : h b = some (ob ci fs)) (hci : vwCl[ci]? = some r) (hr1 : r.1 = M'.1.cls) (hC : Cal v M' d' mc' ms' (.ref b :: As) h top Qr noX) (hst : st = As.reverse ++ .ref b :: rest) (hn : As.length = n) (hW : (rest.map fun w => w.category).sum ≤ 8) (hc : cells + mc' ≤ R.cells) (hs : slots + ms' ≤ R.slots)
    (k : ∀ (rv : Option Value) (h' : Hp) (top' : Nat), Qr rv h' top' → J v M R K t0 (cells + mc') (slots + ms') h' top' (pc + 3) ls (rv.toList ++ rest)) : J v M R K t0 cells slots h top pc ls st := by
  intro p l e s m args below meth c F H locs A hz hH hS hl2
  obtain ⟨w0, w5, w6⟩ := mw
  subst hst
  have hrecv : ∃ cellB : Cell, H[b]? = some cellB ∧ cellB.vm.isStatics = false ∧ s.vm.findClass M'.1.cls = some cellB.cls := by
    rw [← hr1]
    exact va_recv F.bs.1 (va_P1 (hH b _ hb).2) hci (q0 := 0) rfl
  refine J_after (vx_runV (Ts := big) (own := M.1.cls) (C := M'.1.cls) ⟨F.1, F.2.1, F.2.2.1, F.2.2.2.1, F.ht⟩ (hC l F.2.2.2.2.2.2.2.1) ⟨J_callB F hh w0 hl hR, F.ht _ w5, F.ht _ w6⟩ ⟨Rp.blind, hrecv, fun U hU hW1 => ⟨rfl, J_pre F hz hH hS hU hW1⟩⟩ rfl hn hl2.1 rfl (by show 2 * 0 + _ ≤ 8; omega) d ⟨hc, hs⟩) hS ?_ ?_
  · intro rv h' top' H' locs' hq hz' hH' hS'
    exact k rv h' top' hq p l e s m args below meth c F H' locs' A hz' hH' hS' hl2
  · intro E ce q h' top' H' locs' hq
    exact hq.elim
theorem r_callS {M' : Md} {idx n d' mc' ms' : Nat} {As rest : List Value} {Qr : Option Value → Hp → Nat → Prop} (d : decode M.2.1 pc = .ok (.invokestatic idx, 3)) (hl : Cond.methodLink M.1.cls idx M'.1 ∈ big) (hh : M'.2.2.2.2 = []) (mw : MwS M' n) (hR : Fits R M' d')
    (hC : Cal v M' d' mc' ms' As h top Qr noX) (hst : st = As.reverse ++ rest) (hn : As.length = n) (hW : (rest.map fun w => w.category).sum ≤ 8) (hc : cells + mc' ≤ R.cells) (hs : slots + ms' ≤ R.slots)
    (k : ∀ (rv : Option Value) (h' : Hp) (top' : Nat), Qr rv h' top' → J v M R K t0 (cells + mc') (slots + ms') h' top' (pc + 3) ls (rv.toList ++ rest)) : J v M R K t0 cells slots h top pc ls st := by
  intro p l e s m args below meth c F H locs A hz hH hS hl2
  obtain ⟨w0, w5⟩ := mw
  subst hst
  refine J_after (vx_runS (Ts := big) (own := M.1.cls) ⟨F.1, F.2.1, F.2.2.1, F.2.2.2.1, F.ht⟩ (hC l F.2.2.2.2.2.2.2.1) ⟨J_callB F hh w0 hl hR, F.ht _ w5⟩ ⟨Rp.blind, fun U hU hW1 => ⟨rfl, J_pre F hz hH hS hU hW1⟩⟩ rfl hn hl2.1 rfl (by show 2 * 0 + _ ≤ 8; omega) d ⟨hc, hs⟩) hS ?_ ?_
  · intro rv h' top' H' locs' hq hz' hH' hS'
    exact k rv h' top' hq p l e s m args below meth c F H' locs' A hz' hH' hS' hl2
  · intro E ce q h' top' H' locs' hq
    exact hq.elim
/-- a static call of a method with a table of handlers, which throws nothing -/
theorem r_callSH {M' : Md} {idx n d' mc' ms' : Nat} {As rest : List Value} {Qr : Option Value → Hp → Nat → Prop} {x : Nat × Nat × Nat × Nat} {hs1 : List (Nat × Nat × Nat × Nat)} (d : decode M.2.1 pc = .ok (.invokestatic idx, 3)) (hl : Cond.methodLink M.1.cls idx M'.1 ∈ big) (hh : M'.2.2.2.2 = x :: hs1) (mw : MwS M' n) (hR : Fits R M' d')
    (hC : Cal v M' d' mc' ms' As h top Qr noX) (hst : st = As.reverse ++ rest) (hn : As.length = n) (hW : (rest.map fun w => w.category).sum ≤ 8) (hc : cells + mc' ≤ R.cells) (hs : slots + ms' ≤ R.slots)
    (k : ∀ (rv : Option Value) (h' : Hp) (top' : Nat), Qr rv h' top' → J v M R K t0 (cells + mc') (slots + ms') h' top' (pc + 3) ls (rv.toList ++ rest)) : J v M R K t0 cells slots h top pc ls st := by
  intro p l e s m args below meth c F H locs A hz hH hS hl2
  obtain ⟨⟨w1, w2, w3, w4⟩, w5⟩ := mw
  subst hst
  have hcw : cw M' = Cond.codeWith M'.1 M'.2.1 M'.2.2.1 M'.2.2.2.1 M'.2.2.2.2 := by unfold cw; rw [hh]
  refine J_after (vx_runSX (Ts := big) (own := M.1.cls) (hh := M'.2.2.2.2) (bytes := M'.2.1) (maxL := M'.2.2.1) (ret := M'.2.2.2.1) ⟨F.1, F.2.1, F.2.2.1, F.2.2.2.1, F.ht⟩ (hC l F.2.2.2.2.2.2.2.1) ⟨⟨rfl, rfl, hR.1, hR.2, pay_in F.ht (good_big w1), by rw [hcw]; exact List.mem_cons_self⟩, by rw [← hcw]; exact F.ht _ w1, F.ht _ w2, w3, desc_len w4, F.ht _ hl, F.ht _ w5⟩ ⟨Rp.blind, fun U hU hW1 => ⟨rfl, J_pre F hz hH hS hU hW1⟩⟩ rfl hn hl2.1 rfl (by show 2 * 0 + _ ≤ 8; omega) d ⟨hc, hs⟩) hS ?_ ?_
  · intro rv h' top' H' locs' hq hz' hH' hS'
    exact k rv h' top' hq p l e s m args below meth c F H' locs' A hz' hH' hS' hl2
  · intro E ce q h' top' H' locs' hq
    exact hq.elim
theorem r_callI {M' : Md} {idx n d' mc' ms' b : Nat} {As rest : List Value} {Qr : Option Value → Hp → Nat → Prop} (d : decode M.2.1 pc = .ok (.invokespecial idx, 3)) (hl : Cond.methodLink M.1.cls idx M'.1 ∈ big ∨ ∃ host, Cond.methodLinkNest M.1.cls idx M'.1 host ∈ lw_tbl) (hh : M'.2.2.2.2 = []) (hret : M'.2.2.2.1 = none) (mw : MwI M' n) (hR : Fits R M' d')
    (hC : Cal v M' d' mc' ms' (.ref b :: As) h top Qr noX) (hst : st = As.reverse ++ .ref b :: rest) (hn : As.length = n) (hW : (rest.map fun w => w.category).sum ≤ 8) (hc : cells + mc' ≤ R.cells) (hs : slots + ms' ≤ R.slots)
    (k : ∀ (rv : Option Value) (h' : Hp) (top' : Nat), Qr rv h' top' → J v M R K t0 (cells + mc') (slots + ms') h' top' (pc + 3) ls (rv.toList ++ rest)) : J v M R K t0 cells slots h top pc ls st := by
  intro p l e s m args below meth c F H locs A hz hH hS hl2
  obtain ⟨w0, w5, w6⟩ := mw
  subst hst
  rcases hl with hl | ⟨host, hl⟩
  · refine J_after (vx_runI (Ts := big) (own := M.1.cls) ⟨F.1, F.2.1, F.2.2.1, F.2.2.2.1, F.ht⟩ (hC l F.2.2.2.2.2.2.2.1) ⟨hret ▸ J_callB F hh w0 hl hR, w5, F.ht _ w6⟩ ⟨Rp.blind, fun U hU hW1 => ⟨rfl, J_pre F hz hH hS hU hW1⟩⟩ rfl hn hl2.1 rfl (by show 2 * 0 + _ ≤ 8; omega) d ⟨hc, hs⟩) hS ?_ ?_
    · intro rv h' top' H' locs' hq hz' hH' hS'
      exact k rv h' top' hq p l e s m args below meth c F H' locs' A hz' hH' hS' hl2
    · intro E ce q h' top' H' locs' hq
      exact hq.elim
  · obtain ⟨w1, w2, w3, w4⟩ := w0
    have hcw : cw M' = Cond.code M'.1 M'.2.1 M'.2.2.1 none := by unfold cw; rw [hh, hret]
    refine J_after (vx_runIN (Ts := big) (own := M.1.cls) (host := host) (bytes := M'.2.1) (maxL := M'.2.2.1) ⟨F.1, F.2.1, F.2.2.1, F.2.2.2.1, F.ht⟩ (hC l F.2.2.2.2.2.2.2.1) ⟨⟨⟨rfl, rfl, hR.1, hR.2, pay_in F.ht (good_big w1), by rw [hcw]; exact List.mem_cons_self⟩, by rw [← hcw]; exact F.ht _ w1, F.ht _ w2, w3, desc_len w4, F.nest hl rfl⟩, w5, F.ht _ w6⟩ ⟨Rp.blind, fun U hU hW1 => ⟨rfl, J_pre F hz hH hS hU hW1⟩⟩ rfl hn hl2.1 rfl (by show 2 * 0 + _ ≤ 8; omega) d ⟨hc, hs⟩) hS ?_ ?_
    · intro rv h' top' H' locs' hq hz' hH' hS'
      exact k rv h' top' hq p l e s m args below meth c F H' locs' A hz' hH' hS' hl2
    · intro E ce q h' top' H' locs' hq
      exact hq.elim
/-- what was thrown goes on to the caller -/
theorem J_out {Qr : Option Value → Hp → Nat → Prop} {Qx : String → Hp → Nat → Prop} {mc ms : Nat} {p : Program} {l : Launch} {e : Env} {R : Room} {s : State} {m : MethodId} {args : Array Value} {below : List Frame} {meth : Method} {c : Code} {H : Heap} {locs : List Loc} {cells slots : Nat} {A : Array Slot} {rest : List Value} {E : String} {ce : Cell} {q : Addr}
    (F : Fx v M t0 p l s m args meth c) (hhM : M.2.2.2.2 = []) (hx : Qx E h top) (hz : H.size = top) (hH : Hh v h H) (hS : va_S (Ar v) s.heap H locs) (hcell : H[q]? = some ce) (hv : ce.vm = .none) (hcl : s.vm.findClass E = some ce.cls) (hc : cells ≤ mc) (hs : slots ≤ ms) :
    vx_W p l e R s m args below meth c H locs cells slots (KM v Qr Qx mc ms below args s) (F0 m pc A rest) q := by
  have htab : ∀ x ∈ c.exceptionTable.toList, covers x pc = false := by
    obtain ⟨-, -, -, -, -, -, -, -, -, -, -, -, h1⟩ := F
    rw [h1, hhM]
    intro x hx
    cases hx
  exact vx_out htab F.2.2.2.2.2.2.1 hcell hv hcl (fun t ht _ => ⟨⟨h, top, hx, by rw [ht]; exact hz, by rw [ht]; exact hH⟩, hS.F ht⟩) hS.2.2 hc hs
/-- a call of a method that may throw; what it throws goes on -/
theorem r_callVX {M' : Md} {idx n d' mc' ms' b ci mc ms : Nat} {fs As rest : List Value} {r : vw_C} {Qr Qr0 : Option Value → Hp → Nat → Prop} {Qx Qx0 : String → Hp → Nat → Prop} (d : decode M.2.1 pc = .ok (.invokevirtual idx, 3)) (hl : Cond.methodLink M.1.cls idx M'.1 ∈ big) (hh : M'.2.2.2.2 = []) (hhM : M.2.2.2.2 = []) (mw : MwV M' n) (hR : Fits R M' d')
    (hb : h b = some (ob ci fs)) (hci : vwCl[ci]? = some r) (hr1 : r.1 = M'.1.cls) (hC : Cal v M' d' mc' ms' (.ref b :: As) h top Qr Qx) (hst : st = As.reverse ++ .ref b :: rest) (hn : As.length = n) (hW : (rest.map fun w => w.category).sum ≤ 8) (hc : cells + mc' ≤ R.cells) (hs : slots + ms' ≤ R.slots) (hc2 : cells + mc' ≤ mc) (hs2 : slots + ms' ≤ ms)
    (k : ∀ (rv : Option Value) (h' : Hp) (top' : Nat), Qr rv h' top' → J v M R (KM v Qr0 Qx0 mc ms) t0 (cells + mc') (slots + ms') h' top' (pc + 3) ls (rv.toList ++ rest))
    (kx : ∀ (E : String) (h' : Hp) (top' : Nat), Qx E h' top' → Qx0 E h' top') : J v M R (KM v Qr0 Qx0 mc ms) t0 cells slots h top pc ls st := by
  intro p l e s m args below meth c F H locs A hz hH hS hl2
  obtain ⟨w0, w5, w6⟩ := mw
  subst hst
  have hrecv : ∃ cellB : Cell, H[b]? = some cellB ∧ cellB.vm.isStatics = false ∧ s.vm.findClass M'.1.cls = some cellB.cls := by
    rw [← hr1]
    exact va_recv F.bs.1 (va_P1 (hH b _ hb).2) hci (q0 := 0) rfl
  refine J_after (vx_runV (Ts := big) (own := M.1.cls) (C := M'.1.cls) ⟨F.1, F.2.1, F.2.2.1, F.2.2.2.1, F.ht⟩ (hC l F.2.2.2.2.2.2.2.1) ⟨J_callB F hh w0 hl hR, F.ht _ w5, F.ht _ w6⟩ ⟨Rp.blind, hrecv, fun U hU hW1 => ⟨rfl, J_pre F hz hH hS hU hW1⟩⟩ rfl hn hl2.1 rfl (by show 2 * 0 + _ ≤ 8; omega) d ⟨hc, hs⟩) hS ?_ ?_
  · intro rv h' top' H' locs' hq hz' hH' hS'
    exact k rv h' top' hq p l e s m args below meth c F H' locs' A hz' hH' hS' hl2
  · intro E ce q h' top' H' locs' hq hz' hH' hS' g1 g2 g3
    exact J_out F hhM (kx E h' top' hq) hz' hH' hS' g1 g2 g3 hc2 hs2
/-- a call of a method that may throw, in a method that catches: the exception's class tells which handler -/
theorem r_callVC {M' : Md} {idx n d' mc' ms' b ci : Nat} {fs As rest : List Value} {r : vw_C} {Qr : Option Value → Hp → Nat → Prop} {Qx : String → Hp → Nat → Prop} (d : decode M.2.1 pc = .ok (.invokevirtual idx, 3)) (hl : Cond.methodLink M.1.cls idx M'.1 ∈ big) (hh : M'.2.2.2.2 = []) (mw : MwV M' n) (hR : Fits R M' d')
    (hb : h b = some (ob ci fs)) (hci : vwCl[ci]? = some r) (hr1 : r.1 = M'.1.cls) (hC : Cal v M' d' mc' ms' (.ref b :: As) h top Qr Qx) (hst : st = As.reverse ++ .ref b :: rest) (hn : As.length = n) (hW : (rest.map fun w => w.category).sum ≤ 8) (hc : cells + mc' ≤ R.cells) (hs : slots + ms' ≤ R.slots)
    (k : ∀ (rv : Option Value) (h' : Hp) (top' : Nat), Qr rv h' top' → J v M R K t0 (cells + mc') (slots + ms') h' top' (pc + 3) ls (rv.toList ++ rest))
    (kx : ∀ (E : String) (q : Addr) (h' : Hp) (top' : Nat), Qx E h' top' → ∃ (pre : List ExceptionTableEntry) (x : ExceptionTableEntry) (suf : List ExceptionTableEntry) (name : String), tableOf M.2.2.2.2 = pre ++ x :: suf ∧
      (∀ z ∈ pre, covers z pc = false ∨ (z.catchType ≠ 0 ∧ ∃ nm : String, Cond.classLink M.1.cls z.catchType nm ∈ big ∧ E ∈ exC ∧ nm ∈ exC ∧ E ≠ nm)) ∧ covers x pc = true ∧ x.catchType ≠ 0 ∧ Cond.classLink M.1.cls x.catchType name ∈ big ∧ Cond.castable E name ∈ lw_tbl ∧
      J v M R K t0 (cells + mc') (slots + ms') h' top' x.handlerPc ls [.ref q]) : J v M R K t0 cells slots h top pc ls st := by
  intro p l e s m args below meth c F H locs A hz hH hS hl2
  obtain ⟨w0, w5, w6⟩ := mw
  subst hst
  have hrecv : ∃ cellB : Cell, H[b]? = some cellB ∧ cellB.vm.isStatics = false ∧ s.vm.findClass M'.1.cls = some cellB.cls := by
    rw [← hr1]
    exact va_recv F.bs.1 (va_P1 (hH b _ hb).2) hci (q0 := 0) rfl
  refine J_after (vx_runV (Ts := big) (own := M.1.cls) (C := M'.1.cls) ⟨F.1, F.2.1, F.2.2.1, F.2.2.2.1, F.ht⟩ (hC l F.2.2.2.2.2.2.2.1) ⟨J_callB F hh w0 hl hR, F.ht _ w5, F.ht _ w6⟩ ⟨Rp.blind, hrecv, fun U hU hW1 => ⟨rfl, J_pre F hz hH hS hU hW1⟩⟩ rfl hn hl2.1 rfl (by show 2 * 0 + _ ≤ 8; omega) d ⟨hc, hs⟩) hS ?_ ?_
  · intro rv h' top' H' locs' hq hz' hH' hS'
    exact k rv h' top' hq p l e s m args below meth c F H' locs' A hz' hH' hS' hl2
  · intro E ce q h' top' H' locs' hq hz' hH' hS' g1 g2 g3
    obtain ⟨pre, x, suf, name, e1, e2, e3, e4, e5, e6, e7⟩ := kx E q h' top' hq
    have htab : c.exceptionTable.toList = pre ++ x :: suf := by
      obtain ⟨-, -, -, -, -, -, -, -, -, -, -, -, h1⟩ := F
      rw [h1, e1]
    refine vx_catch F.2.2.2.1 pre x suf htab (fun z hz => ?_) e3 e4 (F.ht _ e5) (F.nest e6 rfl) g1 g2 g3 (e7 p l e s m args below meth c F H' locs' A hz' hH' hS' hl2)
    rcases e2 z hz with q1 | ⟨q1, nm, q2, q3, q4, q5⟩
    · exact Or.inl q1
    · exact Or.inr ⟨q1, nm, F.ht _ q2, F.bs.2.1.2.2.1 E q3 nm q4 q5⟩
section Ret
variable {Qr : Option Value → Hp → Nat → Prop} {Qx : String → Hp → Nat → Prop} {mc ms : Nat}
theorem J_q {p : Program} {l : Launch} {s t : State} {m : MethodId} {args : Array Value} {meth : Method} {c : Code} (F : Fx v M t0 p l s m args meth c) {r : Option Value} (hq : Qr r h top) {H : Heap} {locs : List Loc} (hz : H.size = top) (hH : Hh v h H) (hS : va_S (Ar v) s.heap H locs) (ht : t.heap = H) : Qc v Qr args s (.returned r) t :=
  ⟨⟨r, h, top, rfl, hq, by rw [ht]; exact hz, by rw [ht]; exact hH⟩, hS.F ht⟩
theorem r_iret {x : Int32} (d : decode M.2.1 pc = .ok (.ireturn, 1)) (hr : M.2.2.2.1 = some .int) (hc : cells ≤ mc) (hs : slots ≤ ms) (hq : Qr (some (.int x)) h top) : J v M R (KM v Qr Qx mc ms) t0 cells slots h top pc ls [.int x] := by
  intro p l e s m args below meth c F H locs A hz hH hS hl
  exact W.widen hc hs (vx_ret (W.iret F.1 F.2.1 (F.2.2.2.2.2.1.trans hr) (fun t ht _ => J_q F hq hz hH hS ht) hS.2.2 d (hlocks := F.2.2.2.2.2.2.1)))
theorem r_zret {x : Int32} {ty : FieldType} (d : decode M.2.1 pc = .ok (.ireturn, 1)) (hr : M.2.2.2.1 = some ty) (hn : narrow ty (.int x) = .int x) (hc : cells ≤ mc) (hs : slots ≤ ms) (hq : Qr (some (.int x)) h top) : J v M R (KM v Qr Qx mc ms) t0 cells slots h top pc ls [.int x] := by
  intro p l e s m args below meth c F H locs A hz hH hS hl
  exact W.widen hc hs (vx_ret (W.zret F.1 F.2.1 (F.2.2.2.2.2.1.trans hr) hn (fun t ht _ => J_q F hq hz hH hS ht) hS.2.2 d (hlocks := F.2.2.2.2.2.2.1)))
theorem r_lret {x : Int64} (d : decode M.2.1 pc = .ok (.lreturn, 1)) (hr : M.2.2.2.1 = some .long) (hc : cells ≤ mc) (hs : slots ≤ ms) (hq : Qr (some (.long x)) h top) : J v M R (KM v Qr Qx mc ms) t0 cells slots h top pc ls [.long x] := by
  intro p l e s m args below meth c F H locs A hz hH hS hl
  exact W.widen hc hs (vx_ret (W.lret F.1 F.2.1 (F.2.2.2.2.2.1.trans hr) (fun t ht _ => J_q F hq hz hH hS ht) hS.2.2 d (hlocks := F.2.2.2.2.2.2.1)))
theorem r_fret {x : UInt32} (d : decode M.2.1 pc = .ok (.freturn, 1)) (hr : M.2.2.2.1 = some .float) (hc : cells ≤ mc) (hs : slots ≤ ms) (hq : Qr (some (.float x)) h top) : J v M R (KM v Qr Qx mc ms) t0 cells slots h top pc ls [.float x] := by
  intro p l e s m args below meth c F H locs A hz hH hS hl
  exact W.widen hc hs (vx_ret (W.fret F.1 F.2.1 (F.2.2.2.2.2.1.trans hr) (fun t ht _ => J_q F hq hz hH hS ht) hS.2.2 d (hlocks := F.2.2.2.2.2.2.1)))
theorem r_aret {x : Nat} {rt : FieldType} (d : decode M.2.1 pc = .ok (.areturn, 1)) (hr : M.2.2.2.1 = some rt) (hrt : (∃ n, rt = .object n) ∨ ∃ t, rt = .array t) (hc : cells ≤ mc) (hs : slots ≤ ms) (hq : Qr (some (.ref x)) h top) : J v M R (KM v Qr Qx mc ms) t0 cells slots h top pc ls [.ref x] := by
  intro p l e s m args below meth c F H locs A hz hH hS hl
  exact W.widen hc hs (vx_ret (W.aret F.1 F.2.1 (F.2.2.2.2.2.1.trans hr) hrt (Or.inr ⟨x, rfl⟩) (fun t ht _ => J_q F hq hz hH hS ht) hS.2.2 d (hlocks := F.2.2.2.2.2.2.1)))
theorem r_vret (d : decode M.2.1 pc = .ok (.return_, 1)) (hr : M.2.2.2.1 = none) (hc : cells ≤ mc) (hs : slots ≤ ms) (hq : Qr none h top) : J v M R (KM v Qr Qx mc ms) t0 cells slots h top pc ls [] := by
  intro p l e s m args below meth c F H locs A hz hH hS hl
  exact W.widen hc hs (vx_ret (W.vret F.1 F.2.1 (F.2.2.2.2.2.1.trans hr) (fun t ht _ => J_q F hq hz hH hS ht) hS.2.2 d (hlocks := F.2.2.2.2.2.2.1)))
/-- 'throw new E("text")' -/
def Xw (own : String) (ik ic : Nat) (cls : String) : Prop := Bundle.fit cls = true ∧ Cond.classLink own ik cls ∈ big ∧ Cond.initialized cls ∈ big ∧
  (∀ w ∈ vx_atS own ic cls ["java/lang/RuntimeException", "java/lang/Exception"], w ∈ lw_tbl ∧ (goodWord w || nwk w) = true) ∧ (∀ w ∈ Cond.classLink own ik cls :: Cond.initialized cls :: vx_atS own ic cls ["java/lang/RuntimeException", "java/lang/Exception"], vx_ot w = true)
theorem Xw.words {own : String} {ik ic : Nat} {cls : String} (x : Xw own ik ic cls) {p : Program} {l : Launch} {s : State} {m : MethodId} {args : Array Value} {meth : Method} {c : Code} (F : Fx v M t0 p l s m args meth c) : ∀ w ∈ vx_atS own ic cls ["java/lang/RuntimeException", "java/lang/Exception"], w.before args s = true := by
  intro w hw
  obtain ⟨h1, h2⟩ := x.2.2.2.1 w hw
  rw [Bool.or_eq_true] at h2
  rcases h2 with h2 | h2
  · exact F.ht _ (big_of h1 h2)
  · exact F.nest h1 h2
theorem ex_fit : ∀ n ∈ ["java/lang/RuntimeException", "java/lang/Exception"], Bundle.fit n = true := by decide +kernel
theorem r_throwW {ik is ic : Nat} {cls tx : String} (i : Nat) (hhM : M.2.2.2.2 = []) (x : Xw M.1.cls ik ic cls) (hst : stTab[i]? = some (M.1.cls, is, tx))
    (d0 : decode M.2.1 pc = .ok (.new ik, 3)) (d3 : decode M.2.1 (pc + 3) = .ok (.dup, 1)) (d4 : decode M.2.1 (pc + 4) = .ok (.ldc_w is, 3)) (d7 : decode M.2.1 (pc + 7) = .ok (.invokespecial ic, 3)) (d10 : decode M.2.1 (pc + 10) = .ok (.athrow, 1))
    (hf : 5 < R.frames) (hl2 : (st.map fun w => w.category).sum + 82 ≤ R.locals) (hc : cells + 1 ≤ R.cells) (hs : slots + 6 ≤ R.slots) (hc2 : cells + 1 ≤ mc) (hs2 : slots + 6 ≤ ms) (hq : ∀ top', top ≤ top' → Qx cls h top') : J v M R (KM v Qr Qx mc ms) t0 cells slots h top pc ls st := by
  intro p l e s m args below meth c F H locs A hz hH hS hl
  have htab : ∀ x ∈ c.exceptionTable.toList, covers x (pc + 10) = false := by
    obtain ⟨-, -, -, -, -, -, -, -, -, -, -, -, h1⟩ := F
    rw [h1, hhM]
    intro x hx
    cases hx
  exact vx_throwSW (names := ["java/lang/RuntimeException", "java/lang/Exception"]) F.1 F.2.1 F.2.2.2.2.2.2.2.1 F.2.2.2.1 x.1 ex_fit (F.ht _ x.2.1) (F.ht _ x.2.2.1) (F.bs.2.1.2.1 i _ hst) (x.words F) x.2.2.2.2 F.old.2.2.1 F.old.2.2.2.1 hS (hl.1.trans F.2.2.1.symm) d0 d3 d4 d7 d10 htab hf hl2 hc hs F.2.2.2.2.2.2.1
    (fun t _ h1 h2 => ⟨⟨h, t.heap.size, hq _ (by omega), rfl, fun a e9 ha => ⟨(hH a e9 ha).1, (hH a e9 ha).2.kept (h2 a (hH.lt ha))⟩⟩, Nat.le_trans hS.1 h1, fun q hq1 hq2 => (h2 q (Nat.lt_of_lt_of_le hq1 hS.1)).trans (hS.2.1 q hq1 hq2)⟩) hS.2.2 hc2 hs2
theorem r_throw {ik is ic : Nat} {cls tx : String} (i : Nat) (hhM : M.2.2.2.2 = []) (x : Xw M.1.cls ik ic cls) (hst : stTab[i]? = some (M.1.cls, is, tx))
    (d0 : decode M.2.1 pc = .ok (.new ik, 3)) (d3 : decode M.2.1 (pc + 3) = .ok (.dup, 1)) (d4 : decode M.2.1 (pc + 4) = .ok (.ldc is, 2)) (d7 : decode M.2.1 (pc + 6) = .ok (.invokespecial ic, 3)) (d10 : decode M.2.1 (pc + 9) = .ok (.athrow, 1))
    (hf : 5 < R.frames) (hl2 : (st.map fun w => w.category).sum + 82 ≤ R.locals) (hc : cells + 1 ≤ R.cells) (hs : slots + 6 ≤ R.slots) (hc2 : cells + 1 ≤ mc) (hs2 : slots + 6 ≤ ms) (hq : ∀ top', top ≤ top' → Qx cls h top') : J v M R (KM v Qr Qx mc ms) t0 cells slots h top pc ls st := by
  intro p l e s m args below meth c F H locs A hz hH hS hl
  have htab : ∀ x ∈ c.exceptionTable.toList, covers x (pc + 9) = false := by
    obtain ⟨-, -, -, -, -, -, -, -, -, -, -, -, h1⟩ := F
    rw [h1, hhM]
    intro x hx
    cases hx
  exact vx_throwS (names := ["java/lang/RuntimeException", "java/lang/Exception"]) F.1 F.2.1 F.2.2.2.2.2.2.2.1 F.2.2.2.1 x.1 ex_fit (F.ht _ x.2.1) (F.ht _ x.2.2.1) (F.bs.2.1.2.1 i _ hst) (x.words F) x.2.2.2.2 F.old.2.2.1 F.old.2.2.2.1 hS (hl.1.trans F.2.2.1.symm) d0 d3 d4 d7 d10 htab hf hl2 hc hs F.2.2.2.2.2.2.1
    (fun t _ h1 h2 => ⟨⟨h, t.heap.size, hq _ (by omega), rfl, fun a e9 ha => ⟨(hH a e9 ha).1, (hH a e9 ha).2.kept (h2 a (hH.lt ha))⟩⟩, Nat.le_trans hS.1 h1, fun q hq1 hq2 => (h2 q (Nat.lt_of_lt_of_le hq1 hS.1)).trans (hS.2.1 q hq1 hq2)⟩) hS.2.2 hc2 hs2
end Ret
/-- Math -/
theorem r_mmin {idx : Nat} {x y : Int32} (d : decode M.2.1 pc = .ok (.invokestatic idx, 3)) (w1 : Cond.methodLink M.1.cls idx Lib.Math.min.name ∈ big) (w2 : Cond.static Lib.Math.min.name ∈ big) (w3 : Cond.initialized "java/lang/Math" ∈ big) (w4 : Cond.code Lib.Math.min.name Lib.Math.min.code 2 (some .int) ∈ big) (hf : 1 ≤ R.frames) (hl2 : (st.map fun w => w.category).sum + 13 ≤ R.locals) (hc : cells ≤ R.cells) (hs : slots ≤ R.slots)
    (kk : J v M R K t0 cells slots h top (pc + 3) ls (.int (if y < x then y else x) :: st)) : J v M R K t0 cells slots h top pc ls (.int y :: .int x :: st) := by
  intro p l e s m args below meth c F H locs A hz hH hS hl
  exact va_mmin F.1 F.2.1 (F.2.2.1.trans hl.1.symm) F.2.2.2.1 (F.ht _ w1) (F.ht _ w2) (F.ht _ w3) (F.ht _ w4) hf hl2 hc hs d (kk p l e s m args below meth c F H locs A hz hH hS hl)
theorem r_mmax {idx : Nat} {x y : Int32} (d : decode M.2.1 pc = .ok (.invokestatic idx, 3)) (w1 : Cond.methodLink M.1.cls idx Lib.Math.max.name ∈ big) (w2 : Cond.static Lib.Math.max.name ∈ big) (w3 : Cond.initialized "java/lang/Math" ∈ big) (w4 : Cond.code Lib.Math.max.name Lib.Math.max.code 2 (some .int) ∈ big) (hf : 1 ≤ R.frames) (hl2 : (st.map fun w => w.category).sum + 13 ≤ R.locals) (hc : cells ≤ R.cells) (hs : slots ≤ R.slots)
    (kk : J v M R K t0 cells slots h top (pc + 3) ls (.int (if x < y then y else x) :: st)) : J v M R K t0 cells slots h top pc ls (.int y :: .int x :: st) := by
  intro p l e s m args below meth c F H locs A hz hH hS hl
  exact va_mmax F.1 F.2.1 (F.2.2.1.trans hl.1.symm) F.2.2.2.1 (F.ht _ w1) (F.ht _ w2) (F.ht _ w3) (F.ht _ w4) hf hl2 hc hs d (kk p l e s m args below meth c F H locs A hz hH hS hl)
end JC
end
section
/-! ===== the words of the tables by their places, and the methods (written by wip/p37/gen_words.py) ===== -/
theorem bigs (ws : List Cond) (ps : List Nat) (h1 : ws = ps.filterMap (fun i => lw_tbl[i]?)) (h2 : ws.all goodWord = true) : ∀ w ∈ ws, w ∈ big := fun w hw => by
  obtain ⟨h, -⟩ := goodIn_r (big := lw_tbl) ws ps h1 h2 w hw
  exact big_of h (List.all_eq_true.mp h2 w hw)
set_option maxRecDepth 20000 in
theorem inX0 : ∀ w ∈ u_ws RX0 TX0 2, w ∈ big := bigs _ [246, 248] (by decide +kernel) (by decide +kernel)
theorem clkX0 : Clk 0 RX0 TX0 2 tyX0 := ⟨rfl, inX0, tyX0_ok, nmX0⟩
set_option maxRecDepth 20000 in
theorem inX1 : ∀ w ∈ u_ws RX1 TX1 4, w ∈ big := bigs _ [280, 282, 284, 286] (by decide +kernel) (by decide +kernel)
theorem clkX1 : Clk 1 RX1 TX1 4 tyX1 := ⟨rfl, inX1, tyX1_ok, nmX1⟩
set_option maxRecDepth 20000 in
theorem inX2 : ∀ w ∈ u_ws RX2 TX2 2, w ∈ big := bigs _ [299, 301] (by decide +kernel) (by decide +kernel)
theorem clkX2 : Clk 2 RX2 TX2 2 tyX2 := ⟨rfl, inX2, tyX2_ok, nmX2⟩
set_option maxRecDepth 20000 in
theorem inX3 : ∀ w ∈ u_ws RX3 TX3 10, w ∈ big := bigs _ [114, 116, 118, 120, 122, 124, 126, 128, 130, 132] (by decide +kernel) (by decide +kernel)
theorem clkX3 : Clk 3 RX3 TX3 10 tyX3 := ⟨rfl, inX3, tyX3_ok, nmX3⟩
set_option maxRecDepth 20000 in
theorem inX4 : ∀ w ∈ u_ws RX4 TX4 3, w ∈ big := bigs _ [148, 150, 152] (by decide +kernel) (by decide +kernel)
theorem clkX4 : Clk 4 RX4 TX4 3 tyX4 := ⟨rfl, inX4, tyX4_ok, nmX4⟩
set_option maxRecDepth 20000 in
theorem inX5 : ∀ w ∈ u_ws RX5 TX5 3, w ∈ big := bigs _ [262, 264, 266] (by decide +kernel) (by decide +kernel)
theorem clkX5 : Clk 5 RX5 TX5 3 tyX5 := ⟨rfl, inX5, tyX5_ok, nmX5⟩
set_option maxRecDepth 20000 in
theorem inX6 : ∀ w ∈ u_ws RX6 TX6 13, w ∈ big := bigs _ [211, 213, 215, 217, 219, 221, 223, 225, 227, 229, 231, 233, 235] (by decide +kernel) (by decide +kernel)
theorem clkX6 : Clk 6 RX6 TX6 13 tyX6 := ⟨rfl, inX6, tyX6_ok, nmX6⟩
set_option maxRecDepth 20000 in
theorem inX7 : ∀ w ∈ u_ws RX7 TX7 4, w ∈ big := bigs _ [338, 340, 342, 344] (by decide +kernel) (by decide +kernel)
theorem clkX7 : Clk 7 RX7 TX7 4 tyX7 := ⟨rfl, inX7, tyX7_ok, nmX7⟩
set_option maxRecDepth 20000 in
theorem inX8 : ∀ w ∈ u_ws RX8 TX8 5, w ∈ big := bigs _ [315, 317, 319, 321, 323] (by decide +kernel) (by decide +kernel)
theorem clkX8 : Clk 8 RX8 TX8 5 tyX8 := ⟨rfl, inX8, tyX8_ok, nmX8⟩
set_option maxRecDepth 20000 in
theorem inX9 : ∀ w ∈ u_ws RX9 TX9 6, w ∈ big := bigs _ [178, 180, 182, 184, 186, 188] (by decide +kernel) (by decide +kernel)
theorem clkX9 : Clk 9 RX9 TX9 6 tyX9 := ⟨rfl, inX9, tyX9_ok, nmX9⟩
set_option maxRecDepth 20000 in
theorem inX10 : ∀ w ∈ u_ws RX10 TX10 12, w ∈ big := bigs _ [360, 362, 364, 366, 368, 370, 372, 374, 376, 378, 380, 382] (by decide +kernel) (by decide +kernel)
theorem clkX10 : Clk 10 RX10 TX10 12 tyX10 := ⟨rfl, inX10, tyX10_ok, nmX10⟩
set_option maxRecDepth 20000 in
theorem inJ0 : ∀ w ∈ u_ws RJ0 TJ0 4, w ∈ big := bigs _ [1228, 1230, 1232, 1234] (by decide +kernel) (by decide +kernel)
theorem clkJ0 : Clk 11 RJ0 TJ0 4 tyJ0 := ⟨rfl, inJ0, tyJ0_ok, nmJ0⟩
set_option maxRecDepth 20000 in
theorem inJ4 : ∀ w ∈ u_ws RJ4 TJ4 4, w ∈ big := bigs _ [1029, 1031, 1033, 1035] (by decide +kernel) (by decide +kernel)
theorem clkJ4 : Clk 12 RJ4 TJ4 4 tyJ4 := ⟨rfl, inJ4, tyJ4_ok, nmJ4⟩
set_option maxRecDepth 20000 in
theorem inL : ∀ w ∈ u_ws RL TL 8, w ∈ big := bigs _ [568, 570, 572, 574, 576, 578, 580, 582] (by decide +kernel) (by decide +kernel)
theorem clkL : Clk 13 RL TL 8 tyL := ⟨rfl, inL, tyL_ok, nmL⟩
theorem kl_L_39 : Cond.classLink RL 39 "RandomWalks" ∈ big := big_at 75 (by decide +kernel) rfl
theorem ml_L_103 : Cond.methodLink RL 103 yX10_init ∈ big := big_at 77 (by decide +kernel) rfl
theorem ml_X10_1 : Cond.methodLink RX10 1 Lib.objectInit ∈ big := big_at 80 (by decide +kernel) rfl
theorem kl_X10_13 : Cond.classLink RX10 13 "RandomWalks$Graph" ∈ big := big_at 83 (by decide +kernel) rfl
theorem mn_X10_15 : Cond.methodLinkNest RX10 15 yX3_init "RandomWalks" ∈ lw_tbl := List.mem_of_getElem? (i := 85) (by decide +kernel)
theorem ml_X3_3 : Cond.methodLink RX3 3 Lib.objectInit ∈ big := big_at 88 (by decide +kernel) rfl
theorem fn_X3_40 : Cond.fieldLinkNest RX3 40 "RandomWalks" "COST_ONE" "[I" "RandomWalks" ∈ lw_tbl := List.mem_of_getElem? (i := 89) (by decide +kernel)
theorem gf_X3_9 : Gf RX3 9 3 0 := ⟨_, _, _, _, clkX3, by decide, Or.inl (big_at 91 (by decide +kernel) rfl)⟩
theorem pf_X3_9 : Pf RX3 9 3 0 (.int) := ⟨_, _, _, _, clkX3, by decide, Or.inl (big_at 91 (by decide +kernel) rfl), rfl, by decide +kernel⟩
theorem gf_X7_32 : Gf RX7 32 3 0 := ⟨_, _, _, _, clkX3, by decide, Or.inr ⟨"RandomWalks", List.mem_of_getElem? (i := 92) (by decide +kernel)⟩⟩
theorem pf_X7_32 : Pf RX7 32 3 0 (.int) := ⟨_, _, _, _, clkX3, by decide, Or.inr ⟨"RandomWalks", List.mem_of_getElem? (i := 92) (by decide +kernel)⟩, rfl, by decide +kernel⟩
theorem gf_X1_54 : Gf RX1 54 3 0 := ⟨_, _, _, _, clkX3, by decide, Or.inr ⟨"RandomWalks", List.mem_of_getElem? (i := 93) (by decide +kernel)⟩⟩
theorem pf_X1_54 : Pf RX1 54 3 0 (.int) := ⟨_, _, _, _, clkX3, by decide, Or.inr ⟨"RandomWalks", List.mem_of_getElem? (i := 93) (by decide +kernel)⟩, rfl, by decide +kernel⟩
theorem gf_X8_54 : Gf RX8 54 3 0 := ⟨_, _, _, _, clkX3, by decide, Or.inr ⟨"RandomWalks", List.mem_of_getElem? (i := 94) (by decide +kernel)⟩⟩
theorem pf_X8_54 : Pf RX8 54 3 0 (.int) := ⟨_, _, _, _, clkX3, by decide, Or.inr ⟨"RandomWalks", List.mem_of_getElem? (i := 94) (by decide +kernel)⟩, rfl, by decide +kernel⟩
theorem gf_X6_149 : Gf RX6 149 3 0 := ⟨_, _, _, _, clkX3, by decide, Or.inr ⟨"RandomWalks", List.mem_of_getElem? (i := 95) (by decide +kernel)⟩⟩
theorem pf_X6_149 : Pf RX6 149 3 0 (.int) := ⟨_, _, _, _, clkX3, by decide, Or.inr ⟨"RandomWalks", List.mem_of_getElem? (i := 95) (by decide +kernel)⟩, rfl, by decide +kernel⟩
theorem gf_X10_127 : Gf RX10 127 3 0 := ⟨_, _, _, _, clkX3, by decide, Or.inr ⟨"RandomWalks", List.mem_of_getElem? (i := 96) (by decide +kernel)⟩⟩
theorem pf_X10_127 : Pf RX10 127 3 0 (.int) := ⟨_, _, _, _, clkX3, by decide, Or.inr ⟨"RandomWalks", List.mem_of_getElem? (i := 96) (by decide +kernel)⟩, rfl, by decide +kernel⟩
theorem gf_X3_15 : Gf RX3 15 3 1 := ⟨_, _, _, _, clkX3, by decide, Or.inl (big_at 97 (by decide +kernel) rfl)⟩
theorem pf_X3_15 : Pf RX3 15 3 1 (.int) := ⟨_, _, _, _, clkX3, by decide, Or.inl (big_at 97 (by decide +kernel) rfl), rfl, by decide +kernel⟩
theorem gf_X0_45 : Gf RX0 45 3 1 := ⟨_, _, _, _, clkX3, by decide, Or.inr ⟨"RandomWalks", List.mem_of_getElem? (i := 98) (by decide +kernel)⟩⟩
theorem pf_X0_45 : Pf RX0 45 3 1 (.int) := ⟨_, _, _, _, clkX3, by decide, Or.inr ⟨"RandomWalks", List.mem_of_getElem? (i := 98) (by decide +kernel)⟩, rfl, by decide +kernel⟩
theorem gf_X10_124 : Gf RX10 124 3 1 := ⟨_, _, _, _, clkX3, by decide, Or.inr ⟨"RandomWalks", List.mem_of_getElem? (i := 99) (by decide +kernel)⟩⟩
theorem pf_X10_124 : Pf RX10 124 3 1 (.int) := ⟨_, _, _, _, clkX3, by decide, Or.inr ⟨"RandomWalks", List.mem_of_getElem? (i := 99) (by decide +kernel)⟩, rfl, by decide +kernel⟩
theorem gf_X3_18 : Gf RX3 18 3 2 := ⟨_, _, _, _, clkX3, by decide, Or.inl (big_at 100 (by decide +kernel) rfl)⟩
theorem pf_X3_18 : Pf RX3 18 3 2 (.int) := ⟨_, _, _, _, clkX3, by decide, Or.inl (big_at 100 (by decide +kernel) rfl), rfl, by decide +kernel⟩
theorem gf_X6_112 : Gf RX6 112 3 2 := ⟨_, _, _, _, clkX3, by decide, Or.inr ⟨"RandomWalks", List.mem_of_getElem? (i := 101) (by decide +kernel)⟩⟩
theorem pf_X6_112 : Pf RX6 112 3 2 (.int) := ⟨_, _, _, _, clkX3, by decide, Or.inr ⟨"RandomWalks", List.mem_of_getElem? (i := 101) (by decide +kernel)⟩, rfl, by decide +kernel⟩
theorem gf_X10_197 : Gf RX10 197 3 2 := ⟨_, _, _, _, clkX3, by decide, Or.inr ⟨"RandomWalks", List.mem_of_getElem? (i := 102) (by decide +kernel)⟩⟩
theorem pf_X10_197 : Pf RX10 197 3 2 (.int) := ⟨_, _, _, _, clkX3, by decide, Or.inr ⟨"RandomWalks", List.mem_of_getElem? (i := 102) (by decide +kernel)⟩, rfl, by decide +kernel⟩
theorem gf_X3_21 : Gf RX3 21 3 3 := ⟨_, _, _, _, clkX3, by decide, Or.inl (big_at 103 (by decide +kernel) rfl)⟩
theorem pf_X3_21 : Pf RX3 21 3 3 (.int) := ⟨_, _, _, _, clkX3, by decide, Or.inl (big_at 103 (by decide +kernel) rfl), rfl, by decide +kernel⟩
theorem gf_X3_24 : Gf RX3 24 3 4 := ⟨_, _, _, _, clkX3, by decide, Or.inl (big_at 104 (by decide +kernel) rfl)⟩
theorem pff_X3_24 : Pff RX3 24 3 4 (.array .int) := ⟨_, _, _, _, clkX3, by decide, big_at 104 (by decide +kernel) rfl, rfl, rfl, by decide +kernel⟩
theorem gf_X0_49 : Gf RX0 49 3 4 := ⟨_, _, _, _, clkX3, by decide, Or.inr ⟨"RandomWalks", List.mem_of_getElem? (i := 105) (by decide +kernel)⟩⟩
theorem gf_X3_28 : Gf RX3 28 3 5 := ⟨_, _, _, _, clkX3, by decide, Or.inl (big_at 106 (by decide +kernel) rfl)⟩
theorem pff_X3_28 : Pff RX3 28 3 5 (.array .int) := ⟨_, _, _, _, clkX3, by decide, big_at 106 (by decide +kernel) rfl, rfl, rfl, by decide +kernel⟩
theorem gf_X0_52 : Gf RX0 52 3 5 := ⟨_, _, _, _, clkX3, by decide, Or.inr ⟨"RandomWalks", List.mem_of_getElem? (i := 107) (by decide +kernel)⟩⟩
theorem gf_X3_31 : Gf RX3 31 3 6 := ⟨_, _, _, _, clkX3, by decide, Or.inl (big_at 108 (by decide +kernel) rfl)⟩
theorem pff_X3_31 : Pff RX3 31 3 6 (.array .int) := ⟨_, _, _, _, clkX3, by decide, big_at 108 (by decide +kernel) rfl, rfl, rfl, by decide +kernel⟩
theorem gf_X3_34 : Gf RX3 34 3 7 := ⟨_, _, _, _, clkX3, by decide, Or.inl (big_at 109 (by decide +kernel) rfl)⟩
theorem pff_X3_34 : Pff RX3 34 3 7 (.array .int) := ⟨_, _, _, _, clkX3, by decide, big_at 109 (by decide +kernel) rfl, rfl, rfl, by decide +kernel⟩
theorem gf_X3_37 : Gf RX3 37 3 8 := ⟨_, _, _, _, clkX3, by decide, Or.inl (big_at 110 (by decide +kernel) rfl)⟩
theorem pff_X3_37 : Pff RX3 37 3 8 (.array .int) := ⟨_, _, _, _, clkX3, by decide, big_at 110 (by decide +kernel) rfl, rfl, rfl, by decide +kernel⟩
theorem gf_X3_43 : Gf RX3 43 3 9 := ⟨_, _, _, _, clkX3, by decide, Or.inl (big_at 111 (by decide +kernel) rfl)⟩
theorem pf_X3_43 : Pf RX3 43 3 9 (.array .int) := ⟨_, _, _, _, clkX3, by decide, Or.inl (big_at 111 (by decide +kernel) rfl), rfl, by decide +kernel⟩
theorem gf_X0_18 : Gf RX0 18 3 9 := ⟨_, _, _, _, clkX3, by decide, Or.inr ⟨"RandomWalks", List.mem_of_getElem? (i := 112) (by decide +kernel)⟩⟩
theorem pf_X0_18 : Pf RX0 18 3 9 (.array .int) := ⟨_, _, _, _, clkX3, by decide, Or.inr ⟨"RandomWalks", List.mem_of_getElem? (i := 112) (by decide +kernel)⟩, rfl, by decide +kernel⟩
theorem gf_X6_138 : Gf RX6 138 3 9 := ⟨_, _, _, _, clkX3, by decide, Or.inr ⟨"RandomWalks", List.mem_of_getElem? (i := 113) (by decide +kernel)⟩⟩
theorem pf_X6_138 : Pf RX6 138 3 9 (.array .int) := ⟨_, _, _, _, clkX3, by decide, Or.inr ⟨"RandomWalks", List.mem_of_getElem? (i := 113) (by decide +kernel)⟩, rfl, by decide +kernel⟩
theorem ac_int : Cond.arrayClass .int ∈ big := big_at 135 (by decide +kernel) rfl
theorem kl_X10_20 : Cond.classLink RX10 20 "RandomWalks$History" ∈ big := big_at 136 (by decide +kernel) rfl
theorem ml_X10_22 : Cond.methodLink RX10 22 yX4_init ∈ big := big_at 138 (by decide +kernel) rfl
theorem ml_X4_3 : Cond.methodLink RX4 3 Lib.objectInit ∈ big := big_at 141 (by decide +kernel) rfl
theorem kl_X4_9 : Cond.classLink RX4 9 "RandomWalks$Graph" ∈ big := big_at 142 (by decide +kernel) rfl
theorem mn_X4_24 : Cond.methodLinkNest RX4 24 yX3_init "RandomWalks" ∈ lw_tbl := List.mem_of_getElem? (i := 144) (by decide +kernel)
theorem gf_X4_11 : Gf RX4 11 4 0 := ⟨_, _, _, _, clkX4, by decide, Or.inl (big_at 145 (by decide +kernel) rfl)⟩
theorem pff_X4_11 : Pff RX4 11 4 0 (.array (.object "RandomWalks$Graph")) := ⟨_, _, _, _, clkX4, by decide, big_at 145 (by decide +kernel) rfl, rfl, rfl, by decide +kernel⟩
theorem gf_X4_17 : Gf RX4 17 4 1 := ⟨_, _, _, _, clkX4, by decide, Or.inl (big_at 146 (by decide +kernel) rfl)⟩
theorem pf_X4_17 : Pf RX4 17 4 1 (.int) := ⟨_, _, _, _, clkX4, by decide, Or.inl (big_at 146 (by decide +kernel) rfl), rfl, by decide +kernel⟩
theorem gf_X4_21 : Gf RX4 21 4 2 := ⟨_, _, _, _, clkX4, by decide, Or.inl (big_at 147 (by decide +kernel) rfl)⟩
theorem pf_X4_21 : Pf RX4 21 4 2 (.int) := ⟨_, _, _, _, clkX4, by decide, Or.inl (big_at 147 (by decide +kernel) rfl), rfl, by decide +kernel⟩
theorem kl_X10_27 : Cond.classLink RX10 27 "RandomWalks$Reader" ∈ big := big_at 155 (by decide +kernel) rfl
theorem mn_X10_29 : Cond.methodLinkNest RX10 29 yX6_init "RandomWalks" ∈ lw_tbl := List.mem_of_getElem? (i := 157) (by decide +kernel)
theorem ml_X6_3 : Cond.methodLink RX6 3 Lib.objectInit ∈ big := big_at 160 (by decide +kernel) rfl
theorem kl_X6_9 : Cond.classLink RX6 9 "RandomWalks$Tokens" ∈ big := big_at 161 (by decide +kernel) rfl
theorem mn_X6_11 : Cond.methodLinkNest RX6 11 yX9_init "RandomWalks" ∈ lw_tbl := List.mem_of_getElem? (i := 163) (by decide +kernel)
theorem ml_X9_3 : Cond.methodLink RX9 3 Lib.objectInit ∈ big := big_at 166 (by decide +kernel) rfl
theorem gf_X9_9 : Gf RX9 9 9 0 := ⟨_, _, _, _, clkX9, by decide, Or.inl (big_at 167 (by decide +kernel) rfl)⟩
theorem pff_X9_9 : Pff RX9 9 9 0 (.array .byte) := ⟨_, _, _, _, clkX9, by decide, big_at 167 (by decide +kernel) rfl, rfl, rfl, by decide +kernel⟩
theorem gf_X9_15 : Gf RX9 15 9 1 := ⟨_, _, _, _, clkX9, by decide, Or.inl (big_at 168 (by decide +kernel) rfl)⟩
theorem pf_X9_15 : Pf RX9 15 9 1 (.int) := ⟨_, _, _, _, clkX9, by decide, Or.inl (big_at 168 (by decide +kernel) rfl), rfl, by decide +kernel⟩
theorem gf_X10_87 : Gf RX10 87 9 1 := ⟨_, _, _, _, clkX9, by decide, Or.inr ⟨"RandomWalks", List.mem_of_getElem? (i := 169) (by decide +kernel)⟩⟩
theorem pf_X10_87 : Pf RX10 87 9 1 (.int) := ⟨_, _, _, _, clkX9, by decide, Or.inr ⟨"RandomWalks", List.mem_of_getElem? (i := 169) (by decide +kernel)⟩, rfl, by decide +kernel⟩
theorem gf_X9_19 : Gf RX9 19 9 2 := ⟨_, _, _, _, clkX9, by decide, Or.inl (big_at 170 (by decide +kernel) rfl)⟩
theorem pff_X9_19 : Pff RX9 19 9 2 (.array .int) := ⟨_, _, _, _, clkX9, by decide, big_at 170 (by decide +kernel) rfl, rfl, rfl, by decide +kernel⟩
theorem gf_X6_152 : Gf RX6 152 9 2 := ⟨_, _, _, _, clkX9, by decide, Or.inr ⟨"RandomWalks", List.mem_of_getElem? (i := 171) (by decide +kernel)⟩⟩
theorem gf_X9_23 : Gf RX9 23 9 3 := ⟨_, _, _, _, clkX9, by decide, Or.inl (big_at 172 (by decide +kernel) rfl)⟩
theorem pff_X9_23 : Pff RX9 23 9 3 (.array .int) := ⟨_, _, _, _, clkX9, by decide, big_at 172 (by decide +kernel) rfl, rfl, rfl, by decide +kernel⟩
theorem gf_X6_155 : Gf RX6 155 9 3 := ⟨_, _, _, _, clkX9, by decide, Or.inr ⟨"RandomWalks", List.mem_of_getElem? (i := 173) (by decide +kernel)⟩⟩
theorem gf_X9_26 : Gf RX9 26 9 4 := ⟨_, _, _, _, clkX9, by decide, Or.inl (big_at 174 (by decide +kernel) rfl)⟩
theorem pff_X9_26 : Pff RX9 26 9 4 (.array .int) := ⟨_, _, _, _, clkX9, by decide, big_at 174 (by decide +kernel) rfl, rfl, rfl, by decide +kernel⟩
theorem gf_X6_158 : Gf RX6 158 9 4 := ⟨_, _, _, _, clkX9, by decide, Or.inr ⟨"RandomWalks", List.mem_of_getElem? (i := 175) (by decide +kernel)⟩⟩
theorem gf_X9_29 : Gf RX9 29 9 5 := ⟨_, _, _, _, clkX9, by decide, Or.inl (big_at 176 (by decide +kernel) rfl)⟩
theorem pf_X9_29 : Pf RX9 29 9 5 (.int) := ⟨_, _, _, _, clkX9, by decide, Or.inl (big_at 176 (by decide +kernel) rfl), rfl, by decide +kernel⟩
theorem gf_X6_80 : Gf RX6 80 9 5 := ⟨_, _, _, _, clkX9, by decide, Or.inr ⟨"RandomWalks", List.mem_of_getElem? (i := 177) (by decide +kernel)⟩⟩
theorem pf_X6_80 : Pf RX6 80 9 5 (.int) := ⟨_, _, _, _, clkX9, by decide, Or.inr ⟨"RandomWalks", List.mem_of_getElem? (i := 177) (by decide +kernel)⟩, rfl, by decide +kernel⟩
theorem ac_byte : Cond.arrayClass .byte ∈ big := big_at 191 (by decide +kernel) rfl
theorem kl_X6_18 : Cond.classLink RX6 18 "RandomWalks$Graph" ∈ big := big_at 192 (by decide +kernel) rfl
theorem mn_X6_20 : Cond.methodLinkNest RX6 20 yX3_init "RandomWalks" ∈ lw_tbl := List.mem_of_getElem? (i := 193) (by decide +kernel)
theorem gf_X6_12 : Gf RX6 12 6 0 := ⟨_, _, _, _, clkX6, by decide, Or.inl (big_at 194 (by decide +kernel) rfl)⟩
theorem pff_X6_12 : Pff RX6 12 6 0 (.object "RandomWalks$Tokens") := ⟨_, _, _, _, clkX6, by decide, big_at 194 (by decide +kernel) rfl, rfl, rfl, by decide +kernel⟩
theorem gf_X10_83 : Gf RX10 83 6 0 := ⟨_, _, _, _, clkX6, by decide, Or.inr ⟨"RandomWalks", List.mem_of_getElem? (i := 195) (by decide +kernel)⟩⟩
theorem gf_X6_21 : Gf RX6 21 6 1 := ⟨_, _, _, _, clkX6, by decide, Or.inl (big_at 196 (by decide +kernel) rfl)⟩
theorem pff_X6_21 : Pff RX6 21 6 1 (.object "RandomWalks$Graph") := ⟨_, _, _, _, clkX6, by decide, big_at 196 (by decide +kernel) rfl, rfl, rfl, by decide +kernel⟩
theorem gf_X10_118 : Gf RX10 118 6 1 := ⟨_, _, _, _, clkX6, by decide, Or.inr ⟨"RandomWalks", List.mem_of_getElem? (i := 197) (by decide +kernel)⟩⟩
theorem gf_X6_25 : Gf RX6 25 6 2 := ⟨_, _, _, _, clkX6, by decide, Or.inl (big_at 198 (by decide +kernel) rfl)⟩
theorem pf_X6_25 : Pf RX6 25 6 2 (.int) := ⟨_, _, _, _, clkX6, by decide, Or.inl (big_at 198 (by decide +kernel) rfl), rfl, by decide +kernel⟩
theorem gf_X10_111 : Gf RX10 111 6 2 := ⟨_, _, _, _, clkX6, by decide, Or.inr ⟨"RandomWalks", List.mem_of_getElem? (i := 199) (by decide +kernel)⟩⟩
theorem pf_X10_111 : Pf RX10 111 6 2 (.int) := ⟨_, _, _, _, clkX6, by decide, Or.inr ⟨"RandomWalks", List.mem_of_getElem? (i := 199) (by decide +kernel)⟩, rfl, by decide +kernel⟩
theorem gf_X6_29 : Gf RX6 29 6 3 := ⟨_, _, _, _, clkX6, by decide, Or.inl (big_at 200 (by decide +kernel) rfl)⟩
theorem pf_X6_29 : Pf RX6 29 6 3 (.int) := ⟨_, _, _, _, clkX6, by decide, Or.inl (big_at 200 (by decide +kernel) rfl), rfl, by decide +kernel⟩
theorem gf_X10_110 : Gf RX10 110 6 3 := ⟨_, _, _, _, clkX6, by decide, Or.inr ⟨"RandomWalks", List.mem_of_getElem? (i := 201) (by decide +kernel)⟩⟩
theorem pf_X10_110 : Pf RX10 110 6 3 (.int) := ⟨_, _, _, _, clkX6, by decide, Or.inr ⟨"RandomWalks", List.mem_of_getElem? (i := 201) (by decide +kernel)⟩, rfl, by decide +kernel⟩
theorem gf_X6_32 : Gf RX6 32 6 4 := ⟨_, _, _, _, clkX6, by decide, Or.inl (big_at 202 (by decide +kernel) rfl)⟩
theorem pf_X6_32 : Pf RX6 32 6 4 (.int) := ⟨_, _, _, _, clkX6, by decide, Or.inl (big_at 202 (by decide +kernel) rfl), rfl, by decide +kernel⟩
theorem gf_X6_35 : Gf RX6 35 6 5 := ⟨_, _, _, _, clkX6, by decide, Or.inl (big_at 203 (by decide +kernel) rfl)⟩
theorem pf_X6_35 : Pf RX6 35 6 5 (.int) := ⟨_, _, _, _, clkX6, by decide, Or.inl (big_at 203 (by decide +kernel) rfl), rfl, by decide +kernel⟩
theorem gf_X6_38 : Gf RX6 38 6 6 := ⟨_, _, _, _, clkX6, by decide, Or.inl (big_at 204 (by decide +kernel) rfl)⟩
theorem pf_X6_38 : Pf RX6 38 6 6 (.int) := ⟨_, _, _, _, clkX6, by decide, Or.inl (big_at 204 (by decide +kernel) rfl), rfl, by decide +kernel⟩
theorem gf_X6_41 : Gf RX6 41 6 7 := ⟨_, _, _, _, clkX6, by decide, Or.inl (big_at 205 (by decide +kernel) rfl)⟩
theorem pf_X6_41 : Pf RX6 41 6 7 (.int) := ⟨_, _, _, _, clkX6, by decide, Or.inl (big_at 205 (by decide +kernel) rfl), rfl, by decide +kernel⟩
theorem gf_X6_44 : Gf RX6 44 6 8 := ⟨_, _, _, _, clkX6, by decide, Or.inl (big_at 206 (by decide +kernel) rfl)⟩
theorem pf_X6_44 : Pf RX6 44 6 8 (.boolean) := ⟨_, _, _, _, clkX6, by decide, Or.inl (big_at 206 (by decide +kernel) rfl), rfl, by decide +kernel⟩
theorem gf_X6_48 : Gf RX6 48 6 9 := ⟨_, _, _, _, clkX6, by decide, Or.inl (big_at 207 (by decide +kernel) rfl)⟩
theorem pff_X6_48 : Pff RX6 48 6 9 (.array .int) := ⟨_, _, _, _, clkX6, by decide, big_at 207 (by decide +kernel) rfl, rfl, rfl, by decide +kernel⟩
theorem gf_X6_52 : Gf RX6 52 6 10 := ⟨_, _, _, _, clkX6, by decide, Or.inl (big_at 208 (by decide +kernel) rfl)⟩
theorem pf_X6_52 : Pf RX6 52 6 10 (.int) := ⟨_, _, _, _, clkX6, by decide, Or.inl (big_at 208 (by decide +kernel) rfl), rfl, by decide +kernel⟩
theorem gf_X6_55 : Gf RX6 55 6 11 := ⟨_, _, _, _, clkX6, by decide, Or.inl (big_at 209 (by decide +kernel) rfl)⟩
theorem pff_X6_55 : Pff RX6 55 6 11 (.array .int) := ⟨_, _, _, _, clkX6, by decide, big_at 209 (by decide +kernel) rfl, rfl, rfl, by decide +kernel⟩
theorem gf_X6_58 : Gf RX6 58 6 12 := ⟨_, _, _, _, clkX6, by decide, Or.inl (big_at 210 (by decide +kernel) rfl)⟩
theorem pf_X6_58 : Pf RX6 58 6 12 (.int) := ⟨_, _, _, _, clkX6, by decide, Or.inl (big_at 210 (by decide +kernel) rfl), rfl, by decide +kernel⟩
theorem kl_X10_34 : Cond.classLink RX10 34 "RandomWalks$Costs" ∈ big := big_at 238 (by decide +kernel) rfl
theorem mn_X10_36 : Cond.methodLinkNest RX10 36 yX0_init "RandomWalks" ∈ lw_tbl := List.mem_of_getElem? (i := 240) (by decide +kernel)
theorem ml_X0_3 : Cond.methodLink RX0 3 Lib.objectInit ∈ big := big_at 243 (by decide +kernel) rfl
theorem gf_X0_9 : Gf RX0 9 0 0 := ⟨_, _, _, _, clkX0, by decide, Or.inl (big_at 244 (by decide +kernel) rfl)⟩
theorem pff_X0_9 : Pff RX0 9 0 0 (.array .int) := ⟨_, _, _, _, clkX0, by decide, big_at 244 (by decide +kernel) rfl, rfl, rfl, by decide +kernel⟩
theorem gf_X0_15 : Gf RX0 15 0 1 := ⟨_, _, _, _, clkX0, by decide, Or.inl (big_at 245 (by decide +kernel) rfl)⟩
theorem pff_X0_15 : Pff RX0 15 0 1 (.array .int) := ⟨_, _, _, _, clkX0, by decide, big_at 245 (by decide +kernel) rfl, rfl, rfl, by decide +kernel⟩
theorem kl_X10_41 : Cond.classLink RX10 41 "RandomWalks$Partition" ∈ big := big_at 251 (by decide +kernel) rfl
theorem mn_X10_43 : Cond.methodLinkNest RX10 43 yX5_init "RandomWalks" ∈ lw_tbl := List.mem_of_getElem? (i := 253) (by decide +kernel)
theorem ml_X5_3 : Cond.methodLink RX5 3 Lib.objectInit ∈ big := big_at 256 (by decide +kernel) rfl
theorem kl_X5_9 : Cond.classLink RX5 9 "RandomWalks$Graph" ∈ big := big_at 257 (by decide +kernel) rfl
theorem mn_X5_11 : Cond.methodLinkNest RX5 11 yX3_init "RandomWalks" ∈ lw_tbl := List.mem_of_getElem? (i := 258) (by decide +kernel)
theorem gf_X5_12 : Gf RX5 12 5 0 := ⟨_, _, _, _, clkX5, by decide, Or.inl (big_at 259 (by decide +kernel) rfl)⟩
theorem pff_X5_12 : Pff RX5 12 5 0 (.object "RandomWalks$Graph") := ⟨_, _, _, _, clkX5, by decide, big_at 259 (by decide +kernel) rfl, rfl, rfl, by decide +kernel⟩
theorem gf_X5_18 : Gf RX5 18 5 1 := ⟨_, _, _, _, clkX5, by decide, Or.inl (big_at 260 (by decide +kernel) rfl)⟩
theorem pff_X5_18 : Pff RX5 18 5 1 (.array .long) := ⟨_, _, _, _, clkX5, by decide, big_at 260 (by decide +kernel) rfl, rfl, rfl, by decide +kernel⟩
theorem gf_X5_22 : Gf RX5 22 5 2 := ⟨_, _, _, _, clkX5, by decide, Or.inl (big_at 261 (by decide +kernel) rfl)⟩
theorem pff_X5_22 : Pff RX5 22 5 2 (.array .int) := ⟨_, _, _, _, clkX5, by decide, big_at 261 (by decide +kernel) rfl, rfl, rfl, by decide +kernel⟩
theorem ac_long : Cond.arrayClass .long ∈ big := big_at 269 (by decide +kernel) rfl
theorem kl_X10_48 : Cond.classLink RX10 48 "RandomWalks$Equations" ∈ big := big_at 270 (by decide +kernel) rfl
theorem mn_X10_50 : Cond.methodLinkNest RX10 50 yX1_init "RandomWalks" ∈ lw_tbl := List.mem_of_getElem? (i := 272) (by decide +kernel)
theorem ml_X1_3 : Cond.methodLink RX1 3 Lib.objectInit ∈ big := big_at 275 (by decide +kernel) rfl
theorem gf_X1_11 : Gf RX1 11 1 0 := ⟨_, _, _, _, clkX1, by decide, Or.inl (big_at 276 (by decide +kernel) rfl)⟩
theorem pff_X1_11 : Pff RX1 11 1 0 (.array .long) := ⟨_, _, _, _, clkX1, by decide, big_at 276 (by decide +kernel) rfl, rfl, rfl, by decide +kernel⟩
theorem gf_X1_15 : Gf RX1 15 1 1 := ⟨_, _, _, _, clkX1, by decide, Or.inl (big_at 277 (by decide +kernel) rfl)⟩
theorem pff_X1_15 : Pff RX1 15 1 1 (.array .int) := ⟨_, _, _, _, clkX1, by decide, big_at 277 (by decide +kernel) rfl, rfl, rfl, by decide +kernel⟩
theorem gf_X1_19 : Gf RX1 19 1 2 := ⟨_, _, _, _, clkX1, by decide, Or.inl (big_at 278 (by decide +kernel) rfl)⟩
theorem pff_X1_19 : Pff RX1 19 1 2 (.array .long) := ⟨_, _, _, _, clkX1, by decide, big_at 278 (by decide +kernel) rfl, rfl, rfl, by decide +kernel⟩
theorem gf_X1_22 : Gf RX1 22 1 3 := ⟨_, _, _, _, clkX1, by decide, Or.inl (big_at 279 (by decide +kernel) rfl)⟩
theorem pf_X1_22 : Pf RX1 22 1 3 (.int) := ⟨_, _, _, _, clkX1, by decide, Or.inl (big_at 279 (by decide +kernel) rfl), rfl, by decide +kernel⟩
theorem kl_X10_55 : Cond.classLink RX10 55 "RandomWalks$Fraction" ∈ big := big_at 289 (by decide +kernel) rfl
theorem mn_X10_57 : Cond.methodLinkNest RX10 57 yX2_init "RandomWalks" ∈ lw_tbl := List.mem_of_getElem? (i := 291) (by decide +kernel)
theorem ml_X2_1 : Cond.methodLink RX2 1 Lib.objectInit ∈ big := big_at 294 (by decide +kernel) rfl
theorem gf_X2_7 : Gf RX2 7 2 0 := ⟨_, _, _, _, clkX2, by decide, Or.inl (big_at 295 (by decide +kernel) rfl)⟩
theorem pf_X2_7 : Pf RX2 7 2 0 (.long) := ⟨_, _, _, _, clkX2, by decide, Or.inl (big_at 295 (by decide +kernel) rfl), rfl, by decide +kernel⟩
theorem gf_X7_52 : Gf RX7 52 2 0 := ⟨_, _, _, _, clkX2, by decide, Or.inr ⟨"RandomWalks", List.mem_of_getElem? (i := 296) (by decide +kernel)⟩⟩
theorem pf_X7_52 : Pf RX7 52 2 0 (.long) := ⟨_, _, _, _, clkX2, by decide, Or.inr ⟨"RandomWalks", List.mem_of_getElem? (i := 296) (by decide +kernel)⟩, rfl, by decide +kernel⟩
theorem gf_X2_13 : Gf RX2 13 2 1 := ⟨_, _, _, _, clkX2, by decide, Or.inl (big_at 297 (by decide +kernel) rfl)⟩
theorem pf_X2_13 : Pf RX2 13 2 1 (.long) := ⟨_, _, _, _, clkX2, by decide, Or.inl (big_at 297 (by decide +kernel) rfl), rfl, by decide +kernel⟩
theorem gf_X7_56 : Gf RX7 56 2 1 := ⟨_, _, _, _, clkX2, by decide, Or.inr ⟨"RandomWalks", List.mem_of_getElem? (i := 298) (by decide +kernel)⟩⟩
theorem pf_X7_56 : Pf RX7 56 2 1 (.long) := ⟨_, _, _, _, clkX2, by decide, Or.inr ⟨"RandomWalks", List.mem_of_getElem? (i := 298) (by decide +kernel)⟩, rfl, by decide +kernel⟩
theorem kl_X10_69 : Cond.classLink RX10 69 "RandomWalks$Stroll" ∈ big := big_at 304 (by decide +kernel) rfl
theorem mn_X10_71 : Cond.methodLinkNest RX10 71 yX8_init "RandomWalks" ∈ lw_tbl := List.mem_of_getElem? (i := 306) (by decide +kernel)
theorem ml_X8_1 : Cond.methodLink RX8 1 Lib.objectInit ∈ big := big_at 309 (by decide +kernel) rfl
theorem gf_X8_7 : Gf RX8 7 8 0 := ⟨_, _, _, _, clkX8, by decide, Or.inl (big_at 310 (by decide +kernel) rfl)⟩
theorem pf_X8_7 : Pf RX8 7 8 0 (.long) := ⟨_, _, _, _, clkX8, by decide, Or.inl (big_at 310 (by decide +kernel) rfl), rfl, by decide +kernel⟩
theorem gf_X8_13 : Gf RX8 13 8 1 := ⟨_, _, _, _, clkX8, by decide, Or.inl (big_at 311 (by decide +kernel) rfl)⟩
theorem pf_X8_13 : Pf RX8 13 8 1 (.int) := ⟨_, _, _, _, clkX8, by decide, Or.inl (big_at 311 (by decide +kernel) rfl), rfl, by decide +kernel⟩
theorem gf_X8_17 : Gf RX8 17 8 2 := ⟨_, _, _, _, clkX8, by decide, Or.inl (big_at 312 (by decide +kernel) rfl)⟩
theorem pf_X8_17 : Pf RX8 17 8 2 (.int) := ⟨_, _, _, _, clkX8, by decide, Or.inl (big_at 312 (by decide +kernel) rfl), rfl, by decide +kernel⟩
theorem gf_X8_20 : Gf RX8 20 8 3 := ⟨_, _, _, _, clkX8, by decide, Or.inl (big_at 313 (by decide +kernel) rfl)⟩
theorem pf_X8_20 : Pf RX8 20 8 3 (.int) := ⟨_, _, _, _, clkX8, by decide, Or.inl (big_at 313 (by decide +kernel) rfl), rfl, by decide +kernel⟩
theorem gf_X8_23 : Gf RX8 23 8 4 := ⟨_, _, _, _, clkX8, by decide, Or.inl (big_at 314 (by decide +kernel) rfl)⟩
theorem pf_X8_23 : Pf RX8 23 8 4 (.int) := ⟨_, _, _, _, clkX8, by decide, Or.inl (big_at 314 (by decide +kernel) rfl), rfl, by decide +kernel⟩
theorem kl_X10_76 : Cond.classLink RX10 76 "RandomWalks$Spread" ∈ big := big_at 326 (by decide +kernel) rfl
theorem mn_X10_78 : Cond.methodLinkNest RX10 78 yX7_init "RandomWalks" ∈ lw_tbl := List.mem_of_getElem? (i := 328) (by decide +kernel)
theorem ml_X7_3 : Cond.methodLink RX7 3 Lib.objectInit ∈ big := big_at 331 (by decide +kernel) rfl
theorem kl_X7_21 : Cond.classLink RX7 21 "RandomWalks$Fraction" ∈ big := big_at 332 (by decide +kernel) rfl
theorem mn_X7_23 : Cond.methodLinkNest RX7 23 yX2_init "RandomWalks" ∈ lw_tbl := List.mem_of_getElem? (i := 333) (by decide +kernel)
theorem gf_X7_9 : Gf RX7 9 7 0 := ⟨_, _, _, _, clkX7, by decide, Or.inl (big_at 334 (by decide +kernel) rfl)⟩
theorem pff_X7_9 : Pff RX7 9 7 0 (.array .float) := ⟨_, _, _, _, clkX7, by decide, big_at 334 (by decide +kernel) rfl, rfl, rfl, by decide +kernel⟩
theorem gf_X7_15 : Gf RX7 15 7 1 := ⟨_, _, _, _, clkX7, by decide, Or.inl (big_at 335 (by decide +kernel) rfl)⟩
theorem pff_X7_15 : Pff RX7 15 7 1 (.array .float) := ⟨_, _, _, _, clkX7, by decide, big_at 335 (by decide +kernel) rfl, rfl, rfl, by decide +kernel⟩
theorem gf_X7_18 : Gf RX7 18 7 2 := ⟨_, _, _, _, clkX7, by decide, Or.inl (big_at 336 (by decide +kernel) rfl)⟩
theorem pff_X7_18 : Pff RX7 18 7 2 (.array .float) := ⟨_, _, _, _, clkX7, by decide, big_at 336 (by decide +kernel) rfl, rfl, rfl, by decide +kernel⟩
theorem gf_X7_24 : Gf RX7 24 7 3 := ⟨_, _, _, _, clkX7, by decide, Or.inl (big_at 337 (by decide +kernel) rfl)⟩
theorem pff_X7_24 : Pff RX7 24 7 3 (.object "RandomWalks$Fraction") := ⟨_, _, _, _, clkX7, by decide, big_at 337 (by decide +kernel) rfl, rfl, rfl, by decide +kernel⟩
theorem ac_float : Cond.arrayClass .float ∈ big := big_at 347 (by decide +kernel) rfl
theorem gf_X10_7 : Gf RX10 7 10 0 := ⟨_, _, _, _, clkX10, by decide, Or.inl (big_at 348 (by decide +kernel) rfl)⟩
theorem pf_X10_7 : Pf RX10 7 10 0 (.int) := ⟨_, _, _, _, clkX10, by decide, Or.inl (big_at 348 (by decide +kernel) rfl), rfl, by decide +kernel⟩
theorem gf_X10_16 : Gf RX10 16 10 1 := ⟨_, _, _, _, clkX10, by decide, Or.inl (big_at 349 (by decide +kernel) rfl)⟩
theorem pff_X10_16 : Pff RX10 16 10 1 (.object "RandomWalks$Graph") := ⟨_, _, _, _, clkX10, by decide, big_at 349 (by decide +kernel) rfl, rfl, rfl, by decide +kernel⟩
theorem gf_X10_23 : Gf RX10 23 10 2 := ⟨_, _, _, _, clkX10, by decide, Or.inl (big_at 350 (by decide +kernel) rfl)⟩
theorem pff_X10_23 : Pff RX10 23 10 2 (.object "RandomWalks$History") := ⟨_, _, _, _, clkX10, by decide, big_at 350 (by decide +kernel) rfl, rfl, rfl, by decide +kernel⟩
theorem gf_X10_30 : Gf RX10 30 10 3 := ⟨_, _, _, _, clkX10, by decide, Or.inl (big_at 351 (by decide +kernel) rfl)⟩
theorem pff_X10_30 : Pff RX10 30 10 3 (.object "RandomWalks$Reader") := ⟨_, _, _, _, clkX10, by decide, big_at 351 (by decide +kernel) rfl, rfl, rfl, by decide +kernel⟩
theorem gf_X10_37 : Gf RX10 37 10 4 := ⟨_, _, _, _, clkX10, by decide, Or.inl (big_at 352 (by decide +kernel) rfl)⟩
theorem pff_X10_37 : Pff RX10 37 10 4 (.object "RandomWalks$Costs") := ⟨_, _, _, _, clkX10, by decide, big_at 352 (by decide +kernel) rfl, rfl, rfl, by decide +kernel⟩
theorem gf_X10_44 : Gf RX10 44 10 5 := ⟨_, _, _, _, clkX10, by decide, Or.inl (big_at 353 (by decide +kernel) rfl)⟩
theorem pff_X10_44 : Pff RX10 44 10 5 (.object "RandomWalks$Partition") := ⟨_, _, _, _, clkX10, by decide, big_at 353 (by decide +kernel) rfl, rfl, rfl, by decide +kernel⟩
theorem gf_X10_51 : Gf RX10 51 10 6 := ⟨_, _, _, _, clkX10, by decide, Or.inl (big_at 354 (by decide +kernel) rfl)⟩
theorem pff_X10_51 : Pff RX10 51 10 6 (.object "RandomWalks$Equations") := ⟨_, _, _, _, clkX10, by decide, big_at 354 (by decide +kernel) rfl, rfl, rfl, by decide +kernel⟩
theorem gf_X10_58 : Gf RX10 58 10 7 := ⟨_, _, _, _, clkX10, by decide, Or.inl (big_at 355 (by decide +kernel) rfl)⟩
theorem pff_X10_58 : Pff RX10 58 10 7 (.object "RandomWalks$Fraction") := ⟨_, _, _, _, clkX10, by decide, big_at 355 (by decide +kernel) rfl, rfl, rfl, by decide +kernel⟩
theorem gf_X10_62 : Gf RX10 62 10 8 := ⟨_, _, _, _, clkX10, by decide, Or.inl (big_at 356 (by decide +kernel) rfl)⟩
theorem pff_X10_62 : Pff RX10 62 10 8 (.object "RandomWalks$Fraction") := ⟨_, _, _, _, clkX10, by decide, big_at 356 (by decide +kernel) rfl, rfl, rfl, by decide +kernel⟩
theorem gf_X10_65 : Gf RX10 65 10 9 := ⟨_, _, _, _, clkX10, by decide, Or.inl (big_at 357 (by decide +kernel) rfl)⟩
theorem pff_X10_65 : Pff RX10 65 10 9 (.array .long) := ⟨_, _, _, _, clkX10, by decide, big_at 357 (by decide +kernel) rfl, rfl, rfl, by decide +kernel⟩
theorem gf_X10_72 : Gf RX10 72 10 10 := ⟨_, _, _, _, clkX10, by decide, Or.inl (big_at 358 (by decide +kernel) rfl)⟩
theorem pff_X10_72 : Pff RX10 72 10 10 (.object "RandomWalks$Stroll") := ⟨_, _, _, _, clkX10, by decide, big_at 358 (by decide +kernel) rfl, rfl, rfl, by decide +kernel⟩
theorem gf_X10_79 : Gf RX10 79 10 11 := ⟨_, _, _, _, clkX10, by decide, Or.inl (big_at 359 (by decide +kernel) rfl)⟩
theorem pff_X10_79 : Pff RX10 79 10 11 (.object "RandomWalks$Spread") := ⟨_, _, _, _, clkX10, by decide, big_at 359 (by decide +kernel) rfl, rfl, rfl, by decide +kernel⟩
theorem ml_L_160 : Cond.methodLink RL 160 yX10_degree ∈ big := big_at 385 (by decide +kernel) rfl
theorem ml_X10_150 : Cond.methodLink RX10 150 yX10_requireVertex ∈ big := big_at 389 (by decide +kernel) rfl
theorem kl_X10_309 : Cond.classLink RX10 309 "java/lang/IndexOutOfBoundsException" ∈ big := big_at 393 (by decide +kernel) rfl
theorem ml_X10_313 : Cond.methodLink RX10 313 ⟨"java/lang/IndexOutOfBoundsException", "<init>", "(Ljava/lang/String;)V"⟩ ∈ big := big_at 435 (by decide +kernel) rfl
theorem ml_X10_153 : Cond.methodLink RX10 153 yX3_sumOfWeights ∈ big := big_at 460 (by decide +kernel) rfl
theorem ml_X3_71 : Cond.methodLink RX3 71 yX3_weightBetween ∈ big := big_at 464 (by decide +kernel) rfl
theorem ml_L_167 : Cond.methodLink RL 167 yX10_trees ∈ big := big_at 468 (by decide +kernel) rfl
theorem ml_X10_193 : Cond.methodLink RX10 193 yX10_countTrees ∈ big := big_at 472 (by decide +kernel) rfl
theorem ml_X10_333 : Cond.methodLink RX10 333 yX1_treesOf ∈ big := big_at 476 (by decide +kernel) rfl
theorem ml_X1_42 : Cond.methodLink RX1 42 yX1_build ∈ big := big_at 480 (by decide +kernel) rfl
theorem ml_X1_57 : Cond.methodLink RX1 57 yX3_sumOfWeights ∈ big := big_at 484 (by decide +kernel) rfl
theorem ml_X1_60 : Cond.methodLink RX1 60 yX3_weightBetween ∈ big := big_at 485 (by decide +kernel) rfl
theorem ml_X1_64 : Cond.methodLink RX1 64 yX1_putCell ∈ big := big_at 486 (by decide +kernel) rfl
theorem ml_X1_46 : Cond.methodLink RX1 46 yX1_eliminate ∈ big := big_at 490 (by decide +kernel) rfl
theorem ml_X1_50 : Cond.methodLink RX1 50 yX1_cell ∈ big := big_at 494 (by decide +kernel) rfl
theorem ml_L_154 : Cond.methodLink RL 154 yX10_absorbing ∈ big := big_at 498 (by decide +kernel) rfl
theorem ml_L_171 : Cond.methodLink RL 171 yX10_after ∈ big := big_at 502 (by decide +kernel) rfl
theorem kl_X10_96 : Cond.classLink RX10 96 "java/lang/IllegalArgumentException" ∈ big := big_at 506 (by decide +kernel) rfl
theorem ml_X10_100 : Cond.methodLink RX10 100 ⟨"java/lang/IllegalArgumentException", "<init>", "(Ljava/lang/String;)V"⟩ ∈ big := big_at 516 (by decide +kernel) rfl
theorem ml_X10_258 : Cond.methodLink RX10 258 yX7_chanceAfter ∈ big := big_at 522 (by decide +kernel) rfl
theorem ml_X7_28 : Cond.methodLink RX7 28 yX7_fillChances ∈ big := big_at 526 (by decide +kernel) rfl
theorem ml_X7_48 : Cond.methodLink RX7 48 yX3_stepChance ∈ big := big_at 530 (by decide +kernel) rfl
theorem ml_X3_81 : Cond.methodLink RX3 81 yX3_sumOfWeights ∈ big := big_at 534 (by decide +kernel) rfl
theorem ml_X3_84 : Cond.methodLink RX3 84 yX2_put ∈ big := big_at 535 (by decide +kernel) rfl
theorem ml_X2_16 : Cond.methodLink RX2 16 yX2_commonDivisor ∈ big := big_at 539 (by decide +kernel) rfl
theorem ml_X2_24 : Cond.methodLink RX2 24 Lib.MathLoose.abs_long.x ∈ big := big_at 542 (by decide +kernel) rfl
theorem ml_X7_38 : Cond.methodLink RX7 38 yX7_chanceAt ∈ big := big_at 545 (by decide +kernel) rfl
theorem ml_X7_42 : Cond.methodLink RX7 42 arraycopyName ∈ big := big_at 549 (by decide +kernel) rfl
theorem kl_L_10 : Cond.classLink RL 10 "RandomWalksLaw" ∈ big := big_at 552 (by decide +kernel) rfl
theorem ml_L_104 : Cond.methodLink RL 104 yL_init ∈ big := big_at 554 (by decide +kernel) rfl
theorem ml_L_1 : Cond.methodLink RL 1 Lib.objectInit ∈ big := big_at 557 (by decide +kernel) rfl
theorem kl_L_7 : Cond.classLink RL 7 "[[I" ∈ big := big_at 558 (by decide +kernel) rfl
theorem gf_L_52 : Gf RL 52 13 0 := ⟨_, _, _, _, clkL, by decide, Or.inl (big_at 560 (by decide +kernel) rfl)⟩
theorem pf_L_52 : Pf RL 52 13 0 (.int) := ⟨_, _, _, _, clkL, by decide, Or.inl (big_at 560 (by decide +kernel) rfl), rfl, by decide +kernel⟩
theorem gf_L_81 : Gf RL 81 13 1 := ⟨_, _, _, _, clkL, by decide, Or.inl (big_at 561 (by decide +kernel) rfl)⟩
theorem pf_L_81 : Pf RL 81 13 1 (.int) := ⟨_, _, _, _, clkL, by decide, Or.inl (big_at 561 (by decide +kernel) rfl), rfl, by decide +kernel⟩
theorem gf_L_71 : Gf RL 71 13 2 := ⟨_, _, _, _, clkL, by decide, Or.inl (big_at 562 (by decide +kernel) rfl)⟩
theorem pf_L_71 : Pf RL 71 13 2 (.int) := ⟨_, _, _, _, clkL, by decide, Or.inl (big_at 562 (by decide +kernel) rfl), rfl, by decide +kernel⟩
theorem gf_L_9 : Gf RL 9 13 3 := ⟨_, _, _, _, clkL, by decide, Or.inl (big_at 563 (by decide +kernel) rfl)⟩
theorem pff_L_9 : Pff RL 9 13 3 (.array (.array .int)) := ⟨_, _, _, _, clkL, by decide, big_at 563 (by decide +kernel) rfl, rfl, rfl, by decide +kernel⟩
theorem gf_L_14 : Gf RL 14 13 4 := ⟨_, _, _, _, clkL, by decide, Or.inl (big_at 564 (by decide +kernel) rfl)⟩
theorem pff_L_14 : Pff RL 14 13 4 (.array (.array .int)) := ⟨_, _, _, _, clkL, by decide, big_at 564 (by decide +kernel) rfl, rfl, rfl, by decide +kernel⟩
theorem gf_L_17 : Gf RL 17 13 5 := ⟨_, _, _, _, clkL, by decide, Or.inl (big_at 565 (by decide +kernel) rfl)⟩
theorem pff_L_17 : Pff RL 17 13 5 (.array .int) := ⟨_, _, _, _, clkL, by decide, big_at 565 (by decide +kernel) rfl, rfl, rfl, by decide +kernel⟩
theorem gf_L_21 : Gf RL 21 13 6 := ⟨_, _, _, _, clkL, by decide, Or.inl (big_at 566 (by decide +kernel) rfl)⟩
theorem pff_L_21 : Pff RL 21 13 6 (.array .int) := ⟨_, _, _, _, clkL, by decide, big_at 566 (by decide +kernel) rfl, rfl, rfl, by decide +kernel⟩
theorem gf_L_24 : Gf RL 24 13 7 := ⟨_, _, _, _, clkL, by decide, Or.inl (big_at 567 (by decide +kernel) rfl)⟩
theorem pff_L_24 : Pff RL 24 13 7 (.array .int) := ⟨_, _, _, _, clkL, by decide, big_at 567 (by decide +kernel) rfl, rfl, rfl, by decide +kernel⟩
theorem ml_L_105 : Cond.methodLink RL 105 yL_cell ∈ big := big_at 585 (by decide +kernel) rfl
theorem ml_L_109 : Cond.methodLink RL 109 yL_bound ∈ big := big_at 588 (by decide +kernel) rfl
theorem ic_L_27 : Cond.constant RL 27 (2147483647) ∈ big := big_at 591 (by decide +kernel) rfl
theorem ml_L_150 : Cond.methodLink RL 150 yL_read ∈ big := big_at 592 (by decide +kernel) rfl
theorem ml_L_28 : Cond.methodLink RL 28 yJ0_length_8abf5 ∈ big := big_at 595 (by decide +kernel) rfl
theorem ml_J0_335 : Cond.methodLink RJ0 335 yJ0_coder_7d493 ∈ big := big_at 599 (by decide +kernel) rfl
theorem fl_J0_38 : Cond.fieldLink RJ0 38 "java/lang/String" "COMPACT_STRINGS" "Z" ∈ big := big_at 603 (by decide +kernel) rfl
theorem ml_L_34 : Cond.methodLink RL 34 yJ0_charAt_5068e ∈ big := big_at 605 (by decide +kernel) rfl
theorem ml_J0_492 : Cond.methodLink RJ0 492 yJ0_isLatin1_aae02 ∈ big := big_at 609 (by decide +kernel) rfl
theorem ml_J0_495 : Cond.methodLink RJ0 495 yJ1_charAt_3b067 ∈ big := big_at 613 (by decide +kernel) rfl
theorem ml_J1_9 : Cond.methodLink RJ1 9 yJ0_checkIndex_df160 ∈ big := big_at 616 (by decide +kernel) rfl
theorem fl_J0_1053 : Cond.fieldLink RJ0 1053 "jdk/internal/util/Preconditions" "SIOOBE_FORMATTER" "Ljava/util/function/BiFunction;" ∈ big := big_at 619 (by decide +kernel) rfl
theorem ml_J0_1059 : Cond.methodLink RJ0 1059 yJ3_checkIndex_8e157 ∈ big := big_at 621 (by decide +kernel) rfl
theorem ml_J0_498 : Cond.methodLink RJ0 498 yJ2_charAt_3b067 ∈ big := big_at 624 (by decide +kernel) rfl
theorem ml_J2_67 : Cond.methodLink RJ2 67 yJ2_checkIndex_2214a ∈ big := big_at 627 (by decide +kernel) rfl
theorem ml_J2_48 : Cond.methodLink RJ2 48 yJ2_length_9d52b ∈ big := big_at 630 (by decide +kernel) rfl
theorem ml_J2_414 : Cond.methodLink RJ2 414 yJ0_checkIndex_df160 ∈ big := big_at 633 (by decide +kernel) rfl
theorem ml_J2_71 : Cond.methodLink RJ2 71 yJ2_getChar_3b067 ∈ big := big_at 634 (by decide +kernel) rfl
theorem fl_J2_44 : Cond.fieldLink RJ2 44 "java/lang/StringUTF16" "$assertionsDisabled" "Z" ∈ big := big_at 637 (by decide +kernel) rfl
theorem fl_J2_59 : Cond.fieldLink RJ2 59 "java/lang/StringUTF16" "HI_BYTE_SHIFT" "I" ∈ big := big_at 639 (by decide +kernel) rfl
theorem fl_J2_63 : Cond.fieldLink RJ2 63 "java/lang/StringUTF16" "LO_BYTE_SHIFT" "I" ∈ big := big_at 641 (by decide +kernel) rfl
theorem ml_L_38 : Cond.methodLink RL 38 yX10_append ∈ big := big_at 643 (by decide +kernel) rfl
theorem ml_X10_92 : Cond.methodLink RX10 92 yX9_hold ∈ big := big_at 647 (by decide +kernel) rfl
theorem ml_L_44 : Cond.methodLink RL 44 yX10_load ∈ big := big_at 651 (by decide +kernel) rfl
theorem ml_X10_103 : Cond.methodLink RX10 103 yX9_scan ∈ big := big_at 656 (by decide +kernel) rfl
theorem ml_X9_32 : Cond.methodLink RX9 32 Lib.Math.min.name ∈ big := big_at 660 (by decide +kernel) rfl
theorem ml_X9_38 : Cond.methodLink RX9 38 yX9_scanToken ∈ big := big_at 663 (by decide +kernel) rfl
theorem ml_X9_45 : Cond.methodLink RX9 45 yX9_isDigit ∈ big := big_at 667 (by decide +kernel) rfl
theorem ml_X9_49 : Cond.methodLink RX9 49 yX9_scanNumber ∈ big := big_at 670 (by decide +kernel) rfl
theorem ml_X9_41 : Cond.methodLink RX9 41 yX9_put ∈ big := big_at 674 (by decide +kernel) rfl
theorem ml_X9_52 : Cond.methodLink RX9 52 yX9_isLetter ∈ big := big_at 678 (by decide +kernel) rfl
theorem ml_X9_55 : Cond.methodLink RX9 55 yX9_scanWord ∈ big := big_at 681 (by decide +kernel) rfl
theorem ml_X9_58 : Cond.methodLink RX9 58 yX9_kindOfWord ∈ big := big_at 685 (by decide +kernel) rfl
theorem ml_X9_63 : Cond.methodLink RX9 63 yX9_isWord ∈ big := big_at 690 (by decide +kernel) rfl
theorem ml_X9_81 : Cond.methodLink RX9 81 yJ0_length_8abf5 ∈ big := big_at 694 (by decide +kernel) rfl
theorem ml_X9_87 : Cond.methodLink RX9 87 yJ0_charAt_5068e ∈ big := big_at 695 (by decide +kernel) rfl
theorem ml_X10_106 : Cond.methodLink RX10 106 yX6_readSetup ∈ big := big_at 703 (by decide +kernel) rfl
theorem ml_X6_61 : Cond.methodLink RX6 61 yX6_takeToken ∈ big := big_at 707 (by decide +kernel) rfl
theorem ml_X6_64 : Cond.methodLink RX6 64 yX6_fail ∈ big := big_at 711 (by decide +kernel) rfl
theorem ml_X6_68 : Cond.methodLink RX6 68 yX6_readNumber ∈ big := big_at 715 (by decide +kernel) rfl
theorem ml_X6_72 : Cond.methodLink RX6 72 yX3_clear ∈ big := big_at 719 (by decide +kernel) rfl
theorem ml_X3_52 : Cond.methodLink RX3 52 Lib.Math.min.name ∈ big := big_at 723 (by decide +kernel) rfl
theorem ml_X3_58 : Cond.methodLink RX3 58 Lib.Math.max.name ∈ big := big_at 724 (by decide +kernel) rfl
theorem ml_X3_61 : Cond.methodLink RX3 61 yJ7_fill_53178 ∈ big := big_at 727 (by decide +kernel) rfl
theorem ml_X6_76 : Cond.methodLink RX6 76 yX6_readSemicolon ∈ big := big_at 730 (by decide +kernel) rfl
theorem ml_X6_83 : Cond.methodLink RX6 83 yX6_readStatement ∈ big := big_at 734 (by decide +kernel) rfl
theorem ml_X6_86 : Cond.methodLink RX6 86 yX6_readEdge ∈ big := big_at 738 (by decide +kernel) rfl
theorem ml_X6_98 : Cond.methodLink RX6 98 yX6_readVertex ∈ big := big_at 742 (by decide +kernel) rfl
theorem ml_X6_101 : Cond.methodLink RX6 101 yX3_weightBetween ∈ big := big_at 746 (by decide +kernel) rfl
theorem ml_X6_105 : Cond.methodLink RX6 105 yX3_putEdge ∈ big := big_at 747 (by decide +kernel) rfl
theorem ml_X3_67 : Cond.methodLink RX3 67 yX3_putWeight ∈ big := big_at 751 (by decide +kernel) rfl
theorem ml_X6_89 : Cond.methodLink RX6 89 yX6_readAbsorb ∈ big := big_at 755 (by decide +kernel) rfl
theorem ml_X6_109 : Cond.methodLink RX6 109 yX3_isAbsorbing ∈ big := big_at 759 (by decide +kernel) rfl
theorem ml_X6_92 : Cond.methodLink RX6 92 yX6_readJoin ∈ big := big_at 763 (by decide +kernel) rfl
theorem ml_X6_115 : Cond.methodLink RX6 115 yX3_uniteBlocks ∈ big := big_at 767 (by decide +kernel) rfl
theorem ml_X3_90 : Cond.methodLink RX3 90 yX3_numberBlocks ∈ big := big_at 771 (by decide +kernel) rfl
theorem ml_X3_46 : Cond.methodLink RX3 46 arraycopyName ∈ big := big_at 775 (by decide +kernel) rfl
theorem ml_X6_95 : Cond.methodLink RX6 95 yX6_readCost ∈ big := big_at 776 (by decide +kernel) rfl
theorem ml_X6_119 : Cond.methodLink RX6 119 yX6_postpone ∈ big := big_at 780 (by decide +kernel) rfl
theorem ml_X6_122 : Cond.methodLink RX6 122 yX6_readFactor ∈ big := big_at 784 (by decide +kernel) rfl
theorem ml_X6_141 : Cond.methodLink RX6 141 yX6_emit ∈ big := big_at 788 (by decide +kernel) rfl
theorem ml_X6_125 : Cond.methodLink RX6 125 yX6_strength ∈ big := big_at 792 (by decide +kernel) rfl
theorem ml_X6_129 : Cond.methodLink RX6 129 yX6_release ∈ big := big_at 795 (by decide +kernel) rfl
theorem ml_X6_146 : Cond.methodLink RX6 146 yX6_operation ∈ big := big_at 799 (by decide +kernel) rfl
theorem ml_X6_132 : Cond.methodLink RX6 132 yJ7_copyOf_59c91 ∈ big := big_at 802 (by decide +kernel) rfl
theorem ml_J7_316 : Cond.methodLink RJ7 316 ⟨"[I", "clone", "()Ljava/lang/Object;"⟩ ∈ big := big_at 805 (by decide +kernel) rfl
theorem kl_J7_317 : Cond.classLink RJ7 317 "[I" ∈ big := big_at 811 (by decide +kernel) rfl
theorem ml_J7_304 : Cond.methodLink RJ7 304 Lib.Math.min.name ∈ big := big_at 812 (by decide +kernel) rfl
theorem ml_J7_150 : Cond.methodLink RJ7 150 arraycopyName ∈ big := big_at 813 (by decide +kernel) rfl
theorem ml_X10_114 : Cond.methodLink RX10 114 yX4_keep ∈ big := big_at 814 (by decide +kernel) rfl
theorem ml_X4_25 : Cond.methodLink RX4 25 yX3_copyFrom ∈ big := big_at 818 (by decide +kernel) rfl
theorem ml_X4_29 : Cond.methodLink RX4 29 Lib.Math.min.name ∈ big := big_at 822 (by decide +kernel) rfl
theorem ml_X10_121 : Cond.methodLink RX10 121 yX3_copyFrom ∈ big := big_at 823 (by decide +kernel) rfl
theorem ml_L_156 : Cond.methodLink RL 156 yL_areHits ∈ big := big_at 824 (by decide +kernel) rfl
theorem ml_L_56 : Cond.methodLink RL 56 yL_reached ∈ big := big_at 828 (by decide +kernel) rfl
theorem ml_L_60 : Cond.methodLink RL 60 yX10_hittingCost ∈ big := big_at 832 (by decide +kernel) rfl
theorem ml_X10_168 : Cond.methodLink RX10 168 yX10_requireWay ∈ big := big_at 836 (by decide +kernel) rfl
theorem ml_X10_244 : Cond.methodLink RX10 244 yX3_hasWay ∈ big := big_at 840 (by decide +kernel) rfl
theorem ml_X3_78 : Cond.methodLink RX3 78 yX3_component ∈ big := big_at 844 (by decide +kernel) rfl
theorem ml_X3_74 : Cond.methodLink RX3 74 yX3_neighbours ∈ big := big_at 848 (by decide +kernel) rfl
theorem kl_X10_248 : Cond.classLink RX10 248 "java/lang/IllegalStateException" ∈ big := big_at 852 (by decide +kernel) rfl
theorem ml_X10_252 : Cond.methodLink RX10 252 ⟨"java/lang/IllegalStateException", "<init>", "(Ljava/lang/String;)V"⟩ ∈ big := big_at 862 (by decide +kernel) rfl
theorem ac_boolean : Cond.arrayClass .boolean ∈ big := big_at 868 (by decide +kernel) rfl
theorem ml_X10_179 : Cond.methodLink RX10 179 yX10_gainCosts ∈ big := big_at 869 (by decide +kernel) rfl
theorem ml_X10_268 : Cond.methodLink RX10 268 yX0_fillTable ∈ big := big_at 873 (by decide +kernel) rfl
theorem ml_X0_39 : Cond.methodLink RX0 39 yJ7_fill_53178 ∈ big := big_at 877 (by decide +kernel) rfl
theorem ml_X0_55 : Cond.methodLink RX0 55 yX0_costOfStep ∈ big := big_at 878 (by decide +kernel) rfl
theorem ml_X0_23 : Cond.methodLink RX0 23 yX3_weightBetween ∈ big := big_at 882 (by decide +kernel) rfl
theorem ml_X0_27 : Cond.methodLink RX0 27 yX0_evaluate ∈ big := big_at 883 (by decide +kernel) rfl
theorem ml_X0_59 : Cond.methodLink RX0 59 yX0_operand ∈ big := big_at 887 (by decide +kernel) rfl
theorem ml_X0_63 : Cond.methodLink RX0 63 yX0_operate ∈ big := big_at 890 (by decide +kernel) rfl
theorem lc_X0_67 : Cond.constantLong RX0 67 (-1000000) ∈ big := big_at 893 (by decide +kernel) rfl
theorem lc_X0_69 : Cond.constantLong RX0 69 (1000000) ∈ big := big_at 894 (by decide +kernel) rfl
theorem ml_X0_71 : Cond.methodLink RX0 71 Lib.MathLoose.min_long.x ∈ big := big_at 895 (by decide +kernel) rfl
theorem ml_X0_74 : Cond.methodLink RX0 74 Lib.MathLoose.max_long.x ∈ big := big_at 898 (by decide +kernel) rfl
theorem ml_X0_31 : Cond.methodLink RX0 31 Lib.Math.min.name ∈ big := big_at 901 (by decide +kernel) rfl
theorem ml_X0_36 : Cond.methodLink RX0 36 Lib.Math.max.name ∈ big := big_at 902 (by decide +kernel) rfl
theorem ml_X10_142 : Cond.methodLink RX10 142 yX3_weightBetween ∈ big := big_at 903 (by decide +kernel) rfl
theorem ml_X10_326 : Cond.methodLink RX10 326 yX0_tabled ∈ big := big_at 904 (by decide +kernel) rfl
theorem ml_X10_175 : Cond.methodLink RX10 175 yX1_meanUntil ∈ big := big_at 908 (by decide +kernel) rfl
theorem ml_X1_26 : Cond.methodLink RX1 26 yX2_put ∈ big := big_at 912 (by decide +kernel) rfl
theorem ml_X1_32 : Cond.methodLink RX1 32 yX3_component ∈ big := big_at 913 (by decide +kernel) rfl
theorem ml_X1_38 : Cond.methodLink RX1 38 yX1_solve ∈ big := big_at 914 (by decide +kernel) rfl
theorem ml_X10_164 : Cond.methodLink RX10 164 yX2_part ∈ big := big_at 918 (by decide +kernel) rfl
theorem ml_L_64 : Cond.methodLink RL 64 yX10_hittingTime ∈ big := big_at 922 (by decide +kernel) rfl
theorem ml_X10_172 : Cond.methodLink RX10 172 yX10_gainSteps ∈ big := big_at 926 (by decide +kernel) rfl
theorem ml_L_48 : Cond.methodLink RL 48 yL_divisor ∈ big := big_at 930 (by decide +kernel) rfl
theorem ml_L_67 : Cond.methodLink RL 67 yL_isMean ∈ big := big_at 933 (by decide +kernel) rfl
theorem ml_L_74 : Cond.methodLink RL 74 yL_isAbsorbing ∈ big := big_at 937 (by decide +kernel) rfl
theorem ml_L_163 : Cond.methodLink RL 163 yL_areAbsorptions ∈ big := big_at 941 (by decide +kernel) rfl
theorem ml_L_78 : Cond.methodLink RL 78 yX10_absorption ∈ big := big_at 945 (by decide +kernel) rfl
theorem ml_X10_200 : Cond.methodLink RX10 200 yX3_isAbsorbing ∈ big := big_at 949 (by decide +kernel) rfl
theorem ml_X10_206 : Cond.methodLink RX10 206 yX10_requireAbsorbingWay ∈ big := big_at 951 (by decide +kernel) rfl
theorem ml_X10_157 : Cond.methodLink RX10 157 yX3_component ∈ big := big_at 955 (by decide +kernel) rfl
theorem ml_X10_209 : Cond.methodLink RX10 209 yX10_findAbsorption ∈ big := big_at 957 (by decide +kernel) rfl
theorem ml_X10_212 : Cond.methodLink RX10 212 yX2_put ∈ big := big_at 961 (by decide +kernel) rfl
theorem ml_X10_216 : Cond.methodLink RX10 216 yX1_solve ∈ big := big_at 962 (by decide +kernel) rfl
theorem ml_L_84 : Cond.methodLink RL 84 yL_treesOf ∈ big := big_at 963 (by decide +kernel) rfl
theorem ml_L_88 : Cond.methodLink RL 88 ⟨"[I", "clone", "()Ljava/lang/Object;"⟩ ∈ big := big_at 967 (by decide +kernel) rfl
theorem kl_L_89 : Cond.classLink RL 89 "[I" ∈ big := big_at 968 (by decide +kernel) rfl
theorem ml_L_181 : Cond.methodLink RL 181 yL_areWalks ∈ big := big_at 969 (by decide +kernel) rfl
theorem lc_L_93 : Cond.constantLong RL 93 (1103515245) ∈ big := big_at 973 (by decide +kernel) rfl
theorem lc_L_95 : Cond.constantLong RL 95 (12345) ∈ big := big_at 974 (by decide +kernel) rfl
theorem lc_L_97 : Cond.constantLong RL 97 (2147483648) ∈ big := big_at 975 (by decide +kernel) rfl
theorem ml_L_99 : Cond.methodLink RL 99 yX10_walk ∈ big := big_at 976 (by decide +kernel) rfl
theorem ml_X10_271 : Cond.methodLink RX10 271 yX8_go ∈ big := big_at 983 (by decide +kernel) rfl
theorem ml_X8_26 : Cond.methodLink RX8 26 yX3_isAbsorbing ∈ big := big_at 987 (by decide +kernel) rfl
theorem ml_X8_32 : Cond.methodLink RX8 32 yX8_drawStep ∈ big := big_at 988 (by decide +kernel) rfl
theorem ml_X8_42 : Cond.methodLink RX8 42 yX3_sumOfWeights ∈ big := big_at 992 (by decide +kernel) rfl
theorem lc_X8_46 : Cond.constantLong RX8 46 (1103515245) ∈ big := big_at 993 (by decide +kernel) rfl
theorem lc_X8_48 : Cond.constantLong RX8 48 (12345) ∈ big := big_at 994 (by decide +kernel) rfl
theorem lc_X8_50 : Cond.constantLong RX8 50 (2147483648) ∈ big := big_at 995 (by decide +kernel) rfl
theorem lc_X8_52 : Cond.constantLong RX8 52 (65536) ∈ big := big_at 996 (by decide +kernel) rfl
theorem ml_X8_57 : Cond.methodLink RX8 57 yX3_weightBetween ∈ big := big_at 997 (by decide +kernel) rfl
theorem ml_X8_36 : Cond.methodLink RX8 36 yX0_tabled ∈ big := big_at 998 (by decide +kernel) rfl
theorem ml_X10_275 : Cond.methodLink RX10 275 yX8_told ∈ big := big_at 999 (by decide +kernel) rfl
theorem ml_L_178 : Cond.methodLink RL 178 yJ9_abs_0f7a4 ∈ big := big_at 1003 (by decide +kernel) rfl
theorem ml_L_138 : Cond.methodLink RL 138 Lib.Math.max.name ∈ big := big_at 1006 (by decide +kernel) rfl
theorem ml_L_133 : Cond.methodLink RL 133 Lib.Math.min.name ∈ big := big_at 1007 (by decide +kernel) rfl
theorem kl_L_113 : Cond.classLink RL 113 "java/lang/StringBuilder" ∈ big := big_at 1008 (by decide +kernel) rfl
theorem ml_L_115 : Cond.methodLink RL 115 yJ4_init_da8c8 ∈ big := big_at 1010 (by decide +kernel) rfl
theorem ml_J4_1 : Cond.methodLink RJ4 1 yJ5_init_d00df ∈ big := big_at 1013 (by decide +kernel) rfl
theorem ml_J5_3 : Cond.methodLink RJ5 3 Lib.objectInit ∈ big := big_at 1016 (by decide +kernel) rfl
theorem fl_J5_18 : Cond.fieldLink RJ5 18 "java/lang/String" "COMPACT_STRINGS" "Z" ∈ big := big_at 1017 (by decide +kernel) rfl
theorem ml_J5_26 : Cond.methodLink RJ5 26 yJ2_newBytesFor_77867 ∈ big := big_at 1018 (by decide +kernel) rfl
theorem ml_J2_11 : Cond.methodLink RJ2 11 yJ2_newBytesLength_0f7a4 ∈ big := big_at 1021 (by decide +kernel) rfl
theorem ic_J2_20 : Cond.constant RJ2 20 (1073741823) ∈ big := big_at 1024 (by decide +kernel) rfl
theorem gf_J5_15 : Gf RJ5 15 12 0 := ⟨_, _, _, _, clkJ4, by decide, Or.inl (big_at 1025 (by decide +kernel) rfl)⟩
theorem pf_J5_15 : Pf RJ5 15 12 0 (.array .byte) := ⟨_, _, _, _, clkJ4, by decide, Or.inl (big_at 1025 (by decide +kernel) rfl), rfl, by decide +kernel⟩
theorem gf_J5_22 : Gf RJ5 22 12 1 := ⟨_, _, _, _, clkJ4, by decide, Or.inl (big_at 1026 (by decide +kernel) rfl)⟩
theorem pf_J5_22 : Pf RJ5 22 12 1 (.byte) := ⟨_, _, _, _, clkJ4, by decide, Or.inl (big_at 1026 (by decide +kernel) rfl), rfl, by decide +kernel⟩
theorem gf_J0_1048 : Gf RJ0 1048 12 2 := ⟨_, _, _, _, clkJ4, by decide, Or.inl (big_at 1027 (by decide +kernel) rfl)⟩
theorem pf_J0_1048 : Pf RJ0 1048 12 2 (.boolean) := ⟨_, _, _, _, clkJ4, by decide, Or.inl (big_at 1027 (by decide +kernel) rfl), rfl, by decide +kernel⟩
theorem gf_J5_79 : Gf RJ5 79 12 3 := ⟨_, _, _, _, clkJ4, by decide, Or.inl (big_at 1028 (by decide +kernel) rfl)⟩
theorem pf_J5_79 : Pf RJ5 79 12 3 (.int) := ⟨_, _, _, _, clkJ4, by decide, Or.inl (big_at 1028 (by decide +kernel) rfl), rfl, by decide +kernel⟩
theorem ml_L_130 : Cond.methodLink RL 130 yJ4_init_a7421 ∈ big := big_at 1038 (by decide +kernel) rfl
theorem ml_J4_7 : Cond.methodLink RJ4 7 yJ5_init_a7421 ∈ big := big_at 1041 (by decide +kernel) rfl
theorem ml_J5_32 : Cond.methodLink RJ5 32 yJ0_length_8abf5 ∈ big := big_at 1044 (by decide +kernel) rfl
theorem ic_J5_38 : Cond.constant RJ5 38 (2147483631) ∈ big := big_at 1045 (by decide +kernel) rfl
theorem ic_J5_39 : Cond.constant RJ5 39 (2147483647) ∈ big := big_at 1046 (by decide +kernel) rfl
theorem ml_J5_40 : Cond.methodLink RJ5 40 yJ0_coder_7d493 ∈ big := big_at 1047 (by decide +kernel) rfl
theorem ml_J5_43 : Cond.methodLink RJ5 43 yJ5_append_cf1ce ∈ big := big_at 1048 (by decide +kernel) rfl
theorem ml_J4_23 : Cond.methodLink RJ4 23 yJ4_append_15ec4 ∈ big := big_at 1054 (by decide +kernel) rfl
theorem ml_J4_29 : Cond.methodLink RJ4 29 yJ5_append_cf1ce ∈ big := big_at 1058 (by decide +kernel) rfl
theorem ml_J5_204 : Cond.methodLink RJ5 204 yJ5_appendNull_278bc ∈ big := big_at 1060 (by decide +kernel) rfl
theorem ml_J5_100 : Cond.methodLink RJ5 100 yJ5_ensureCapacityInternal_d00df ∈ big := big_at 1064 (by decide +kernel) rfl
theorem ml_J5_104 : Cond.methodLink RJ5 104 yJ5_newCapacity_0f7a4 ∈ big := big_at 1068 (by decide +kernel) rfl
theorem ml_J5_114 : Cond.methodLink RJ5 114 yJ8_newLength_cabcc ∈ big := big_at 1072 (by decide +kernel) rfl
theorem ml_J8_194 : Cond.methodLink RJ8 194 Lib.Math.max.name ∈ big := big_at 1075 (by decide +kernel) rfl
theorem ic_J8_200 : Cond.constant RJ8 200 (2147483639) ∈ big := big_at 1076 (by decide +kernel) rfl
theorem ml_J8_201 : Cond.methodLink RJ8 201 yJ8_hugeLength_7cf53 ∈ big := big_at 1077 (by decide +kernel) rfl
theorem ml_J5_108 : Cond.methodLink RJ5 108 yJ7_copyOf_9075b ∈ big := big_at 1080 (by decide +kernel) rfl
theorem ml_J7_310 : Cond.methodLink RJ7 310 ⟨"[B", "clone", "()Ljava/lang/Object;"⟩ ∈ big := big_at 1083 (by decide +kernel) rfl
theorem kl_J7_311 : Cond.classLink RJ7 311 "[B" ∈ big := big_at 1087 (by decide +kernel) rfl
theorem ml_J5_83 : Cond.methodLink RJ5 83 yJ5_isLatin1_aae02 ∈ big := big_at 1088 (by decide +kernel) rfl
theorem ml_J5_226 : Cond.methodLink RJ5 226 yJ2_putCharsAt_cd4e5 ∈ big := big_at 1093 (by decide +kernel) rfl
theorem ml_J2_96 : Cond.methodLink RJ2 96 yJ2_checkBoundsBeginEnd_d044e ∈ big := big_at 1096 (by decide +kernel) rfl
theorem ml_J2_241 : Cond.methodLink RJ2 241 yJ0_checkBoundsBeginEnd_23922 ∈ big := big_at 1099 (by decide +kernel) rfl
theorem ml_J0_1062 : Cond.methodLink RJ0 1062 yJ3_checkFromToIndex_8c36e ∈ big := big_at 1102 (by decide +kernel) rfl
theorem ml_J2_111 : Cond.methodLink RJ2 111 yJ2_putChar_b72d1 ∈ big := big_at 1105 (by decide +kernel) rfl
theorem ml_J5_208 : Cond.methodLink RJ5 208 yJ5_putStringAt_47b60 ∈ big := big_at 1108 (by decide +kernel) rfl
theorem ml_J5_397 : Cond.methodLink RJ5 397 yJ5_inflateIfNeededFor_a7421 ∈ big := big_at 1112 (by decide +kernel) rfl
theorem ml_J5_195 : Cond.methodLink RJ5 195 yJ5_inflate_da8c8 ∈ big := big_at 1116 (by decide +kernel) rfl
theorem ml_J5_125 : Cond.methodLink RJ5 125 yJ1_inflate_0e8fd ∈ big := big_at 1120 (by decide +kernel) rfl
theorem ml_J1_240 : Cond.methodLink RJ1 240 yJ2_inflate_0e8fd ∈ big := big_at 1123 (by decide +kernel) rfl
theorem ml_J2_173 : Cond.methodLink RJ2 173 yJ2_checkBoundsOffCount_d044e ∈ big := big_at 1126 (by decide +kernel) rfl
theorem ml_J2_419 : Cond.methodLink RJ2 419 yJ0_checkBoundsOffCount_cabcc ∈ big := big_at 1129 (by decide +kernel) rfl
theorem ml_J0_1065 : Cond.methodLink RJ0 1065 yJ3_checkFromIndexSize_8c36e ∈ big := big_at 1132 (by decide +kernel) rfl
theorem ml_J5_399 : Cond.methodLink RJ5 399 yJ0_getBytes_840e7 ∈ big := big_at 1135 (by decide +kernel) rfl
theorem ml_J0_212 : Cond.methodLink RJ0 212 arraycopyName ∈ big := big_at 1139 (by decide +kernel) rfl
theorem ml_J0_106 : Cond.methodLink RJ0 106 yJ1_inflate_0e8fd ∈ big := big_at 1140 (by decide +kernel) rfl
theorem ml_L_118 : Cond.methodLink RL 118 yJ4_append_15ec4 ∈ big := big_at 1141 (by decide +kernel) rfl
theorem ml_L_143 : Cond.methodLink RL 143 yJ4_append_cf468 ∈ big := big_at 1142 (by decide +kernel) rfl
theorem ml_J4_50 : Cond.methodLink RJ4 50 yJ5_append_3fe6f ∈ big := big_at 1146 (by decide +kernel) rfl
theorem ml_J5_191 : Cond.methodLink RJ5 191 yJ1_canEncode_fc78d ∈ big := big_at 1149 (by decide +kernel) rfl
theorem ml_J5_197 : Cond.methodLink RJ5 197 yJ2_putCharSB_b72d1 ∈ big := big_at 1152 (by decide +kernel) rfl
theorem ml_L_121 : Cond.methodLink RL 121 yJ4_append_bf812 ∈ big := big_at 1155 (by decide +kernel) rfl
theorem ml_J4_53 : Cond.methodLink RJ4 53 yJ5_append_c97b9 ∈ big := big_at 1159 (by decide +kernel) rfl
theorem ml_J5_245 : Cond.methodLink RJ5 245 yJ6_stringSize_0f7a4 ∈ big := big_at 1162 (by decide +kernel) rfl
theorem ml_J5_248 : Cond.methodLink RJ5 248 yJ6_getChars_ba4f3 ∈ big := big_at 1165 (by decide +kernel) rfl
theorem fl_J6_83 : Cond.fieldLink RJ6 83 "java/lang/Integer" "DigitOnes" "[B" ∈ big := big_at 1168 (by decide +kernel) rfl
theorem fl_J6_87 : Cond.fieldLink RJ6 87 "java/lang/Integer" "DigitTens" "[B" ∈ big := big_at 1170 (by decide +kernel) rfl
theorem ml_J5_251 : Cond.methodLink RJ5 251 yJ2_getChars_46870 ∈ big := big_at 1172 (by decide +kernel) rfl
theorem ml_J2_393 : Cond.methodLink RJ2 393 yJ2_getChars_ba4f3 ∈ big := big_at 1175 (by decide +kernel) rfl
theorem fl_J2_403 : Cond.fieldLink RJ2 403 "java/lang/Integer" "DigitOnes" "[B" ∈ big := big_at 1178 (by decide +kernel) rfl
theorem fl_J2_407 : Cond.fieldLink RJ2 407 "java/lang/Integer" "DigitTens" "[B" ∈ big := big_at 1179 (by decide +kernel) rfl
theorem ml_L_126 : Cond.methodLink RL 126 yJ4_toString_0e30d ∈ big := big_at 1180 (by decide +kernel) rfl
theorem kl_J4_18 : Cond.classLink RJ4 18 "java/lang/String" ∈ big := big_at 1184 (by decide +kernel) rfl
theorem ml_J4_137 : Cond.methodLink RJ4 137 yJ0_init_81219 ∈ big := big_at 1186 (by decide +kernel) rfl
theorem ml_J0_489 : Cond.methodLink RJ0 489 yJ0_init_db425 ∈ big := big_at 1189 (by decide +kernel) rfl
theorem ml_J0_1 : Cond.methodLink RJ0 1 Lib.objectInit ∈ big := big_at 1192 (by decide +kernel) rfl
theorem ml_J0_552 : Cond.methodLink RJ0 552 yJ5_getValue_6d5f1 ∈ big := big_at 1193 (by decide +kernel) rfl
theorem ml_J0_549 : Cond.methodLink RJ0 549 yJ5_length_8abf5 ∈ big := big_at 1198 (by decide +kernel) rfl
theorem ml_J4_343 : Cond.methodLink RJ4 343 yJ5_length_8abf5 ∈ big := big_at 1204 (by decide +kernel) rfl
theorem ml_J0_1047 : Cond.methodLink RJ0 1047 yJ5_isLatin1_aae02 ∈ big := big_at 1206 (by decide +kernel) rfl
theorem ml_J0_54 : Cond.methodLink RJ0 54 yJ7_copyOfRange_39247 ∈ big := big_at 1207 (by decide +kernel) rfl
theorem ml_J7_339 : Cond.methodLink RJ7 339 yJ7_copyOfRangeByte_39247 ∈ big := big_at 1210 (by decide +kernel) rfl
theorem ml_J7_343 : Cond.methodLink RJ7 343 yJ7_checkLength_df160 ∈ big := big_at 1213 (by decide +kernel) rfl
theorem ml_J0_1051 : Cond.methodLink RJ0 1051 yJ2_compress_39247 ∈ big := big_at 1216 (by decide +kernel) rfl
theorem ml_J2_123 : Cond.methodLink RJ2 123 yJ2_compress_5af95 ∈ big := big_at 1219 (by decide +kernel) rfl
theorem ml_J2_126 : Cond.methodLink RJ2 126 yJ7_copyOfRange_39247 ∈ big := big_at 1222 (by decide +kernel) rfl
theorem ml_J0_47 : Cond.methodLink RJ0 47 yJ2_coderFromArrayLen_85cad ∈ big := big_at 1223 (by decide +kernel) rfl
theorem gf_J0_9 : Gf RJ0 9 11 0 := ⟨_, _, _, _, clkJ0, by decide, Or.inl (big_at 1226 (by decide +kernel) rfl)⟩
theorem pff_J0_9 : Pff RJ0 9 11 0 (.array .byte) := ⟨_, _, _, _, clkJ0, by decide, big_at 1226 (by decide +kernel) rfl, rfl, rfl, by decide +kernel⟩
theorem gf_J0_15 : Gf RJ0 15 11 1 := ⟨_, _, _, _, clkJ0, by decide, Or.inl (big_at 1227 (by decide +kernel) rfl)⟩
theorem pff_J0_15 : Pff RJ0 15 11 1 (.byte) := ⟨_, _, _, _, clkJ0, by decide, big_at 1227 (by decide +kernel) rfl, rfl, rfl, by decide +kernel⟩
theorem cf_L_175 : Cond.constantFloat RL 175 (1065336439 : UInt32) ∈ big := big_at 1242 (by decide +kernel) rfl
theorem cf_L_176 : Cond.constantFloat RL 176 (1065361605 : UInt32) ∈ big := big_at 1243 (by decide +kernel) rfl
theorem ic_L_177 : Cond.constant RL 177 (1000000) ∈ big := big_at 1244 (by decide +kernel) rfl
theorem oi_inst : Cond.instanceMethod Lib.objectInit ∈ big := big_at 81 (by decide +kernel) rfl
theorem oi_code : Cond.code Lib.objectInit ⟨#[0xb1]⟩ 1 none ∈ big := big_at 82 (by decide +kernel) rfl
theorem mw_min_s : Cond.static Lib.Math.min.name ∈ big := big_at 661 (by decide +kernel) rfl
theorem mw_min_c : Cond.code Lib.Math.min.name Lib.Math.min.code 2 (some .int) ∈ big := big_at 662 (by decide +kernel) rfl
theorem mw_max_s : Cond.static Lib.Math.max.name ∈ big := big_at 725 (by decide +kernel) rfl
theorem mw_max_c : Cond.code Lib.Math.max.name Lib.Math.max.code 2 (some .int) ∈ big := big_at 726 (by decide +kernel) rfl
theorem mw_minL_s : Cond.static Lib.MathLoose.min_long.x ∈ big := big_at 896 (by decide +kernel) rfl
theorem mw_minL_c : Cond.code Lib.MathLoose.min_long.x Lib.MathLoose.min_long.code 4 (some .long) ∈ big := big_at 897 (by decide +kernel) rfl
theorem mw_maxL_s : Cond.static Lib.MathLoose.max_long.x ∈ big := big_at 899 (by decide +kernel) rfl
theorem mw_maxL_c : Cond.code Lib.MathLoose.max_long.x Lib.MathLoose.max_long.code 4 (some .long) ∈ big := big_at 900 (by decide +kernel) rfl
theorem mw_absL_s : Cond.static Lib.MathLoose.abs_long.x ∈ big := big_at 543 (by decide +kernel) rfl
theorem mw_absL_c : Cond.code Lib.MathLoose.abs_long.x Lib.MathLoose.abs_long.code 2 (some .long) ∈ big := big_at 544 (by decide +kernel) rfl
theorem mw_math : Cond.initialized "java/lang/Math" ∈ big := big_at 62 (by decide +kernel) rfl
theorem mw_acopy_n : Cond.native arraycopyName ∈ big := big_at 551 (by decide +kernel) rfl
theorem mw_acopy_s : Cond.static arraycopyName ∈ big := big_at 550 (by decide +kernel) rfl
theorem mw_system : Cond.initialized "java/lang/System" ∈ big := big_at 64 (by decide +kernel) rfl
theorem nw_L_39 : Nw RL 39 10 12 [.int 0, .null, .null, .null, .null, .null, .null, .null, .null, .null, .null, .null] := ⟨_, _, _, clkX10, big_at 75 (by decide +kernel) rfl, big_at 76 (by decide +kernel) rfl, big_at 46 (by decide +kernel) rfl, fun j hj => by
  rcases (show j = 0 ∨ j = 1 ∨ j = 2 ∨ j = 3 ∨ j = 4 ∨ j = 5 ∨ j = 6 ∨ j = 7 ∨ j = 8 ∨ j = 9 ∨ j = 10 ∨ j = 11 by omega) with rfl | rfl | rfl | rfl | rfl | rfl | rfl | rfl | rfl | rfl | rfl | rfl <;> rfl⟩
theorem nw_X10_13 : Nw RX10 13 3 10 [.int 0, .int 0, .int 0, .int 0, .null, .null, .null, .null, .null, .null] := ⟨_, _, _, clkX3, big_at 83 (by decide +kernel) rfl, big_at 84 (by decide +kernel) rfl, big_at 47 (by decide +kernel) rfl, fun j hj => by
  rcases (show j = 0 ∨ j = 1 ∨ j = 2 ∨ j = 3 ∨ j = 4 ∨ j = 5 ∨ j = 6 ∨ j = 7 ∨ j = 8 ∨ j = 9 by omega) with rfl | rfl | rfl | rfl | rfl | rfl | rfl | rfl | rfl | rfl <;> rfl⟩
theorem nw_X10_20 : Nw RX10 20 4 3 [.null, .int 0, .int 0] := ⟨_, _, _, clkX4, big_at 136 (by decide +kernel) rfl, big_at 137 (by decide +kernel) rfl, big_at 48 (by decide +kernel) rfl, fun j hj => by
  rcases (show j = 0 ∨ j = 1 ∨ j = 2 by omega) with rfl | rfl | rfl <;> rfl⟩
theorem nw_X4_9 : Nw RX4 9 3 10 [.int 0, .int 0, .int 0, .int 0, .null, .null, .null, .null, .null, .null] := ⟨_, _, _, clkX3, big_at 142 (by decide +kernel) rfl, big_at 84 (by decide +kernel) rfl, big_at 47 (by decide +kernel) rfl, fun j hj => by
  rcases (show j = 0 ∨ j = 1 ∨ j = 2 ∨ j = 3 ∨ j = 4 ∨ j = 5 ∨ j = 6 ∨ j = 7 ∨ j = 8 ∨ j = 9 by omega) with rfl | rfl | rfl | rfl | rfl | rfl | rfl | rfl | rfl | rfl <;> rfl⟩
theorem nw_X10_27 : Nw RX10 27 6 13 [.null, .null, .int 0, .int 0, .int 0, .int 0, .int 0, .int 0, .int 0, .null, .int 0, .null, .int 0] := ⟨_, _, _, clkX6, big_at 155 (by decide +kernel) rfl, big_at 156 (by decide +kernel) rfl, big_at 49 (by decide +kernel) rfl, fun j hj => by
  rcases (show j = 0 ∨ j = 1 ∨ j = 2 ∨ j = 3 ∨ j = 4 ∨ j = 5 ∨ j = 6 ∨ j = 7 ∨ j = 8 ∨ j = 9 ∨ j = 10 ∨ j = 11 ∨ j = 12 by omega) with rfl | rfl | rfl | rfl | rfl | rfl | rfl | rfl | rfl | rfl | rfl | rfl | rfl <;> rfl⟩
theorem nw_X6_9 : Nw RX6 9 9 6 [.null, .int 0, .null, .null, .null, .int 0] := ⟨_, _, _, clkX9, big_at 161 (by decide +kernel) rfl, big_at 162 (by decide +kernel) rfl, big_at 50 (by decide +kernel) rfl, fun j hj => by
  rcases (show j = 0 ∨ j = 1 ∨ j = 2 ∨ j = 3 ∨ j = 4 ∨ j = 5 by omega) with rfl | rfl | rfl | rfl | rfl | rfl <;> rfl⟩
theorem nw_X6_18 : Nw RX6 18 3 10 [.int 0, .int 0, .int 0, .int 0, .null, .null, .null, .null, .null, .null] := ⟨_, _, _, clkX3, big_at 192 (by decide +kernel) rfl, big_at 84 (by decide +kernel) rfl, big_at 47 (by decide +kernel) rfl, fun j hj => by
  rcases (show j = 0 ∨ j = 1 ∨ j = 2 ∨ j = 3 ∨ j = 4 ∨ j = 5 ∨ j = 6 ∨ j = 7 ∨ j = 8 ∨ j = 9 by omega) with rfl | rfl | rfl | rfl | rfl | rfl | rfl | rfl | rfl | rfl <;> rfl⟩
theorem nw_X10_34 : Nw RX10 34 0 2 [.null, .null] := ⟨_, _, _, clkX0, big_at 238 (by decide +kernel) rfl, big_at 239 (by decide +kernel) rfl, big_at 51 (by decide +kernel) rfl, fun j hj => by
  rcases (show j = 0 ∨ j = 1 by omega) with rfl | rfl <;> rfl⟩
theorem nw_X10_41 : Nw RX10 41 5 3 [.null, .null, .null] := ⟨_, _, _, clkX5, big_at 251 (by decide +kernel) rfl, big_at 252 (by decide +kernel) rfl, big_at 52 (by decide +kernel) rfl, fun j hj => by
  rcases (show j = 0 ∨ j = 1 ∨ j = 2 by omega) with rfl | rfl | rfl <;> rfl⟩
theorem nw_X5_9 : Nw RX5 9 3 10 [.int 0, .int 0, .int 0, .int 0, .null, .null, .null, .null, .null, .null] := ⟨_, _, _, clkX3, big_at 257 (by decide +kernel) rfl, big_at 84 (by decide +kernel) rfl, big_at 47 (by decide +kernel) rfl, fun j hj => by
  rcases (show j = 0 ∨ j = 1 ∨ j = 2 ∨ j = 3 ∨ j = 4 ∨ j = 5 ∨ j = 6 ∨ j = 7 ∨ j = 8 ∨ j = 9 by omega) with rfl | rfl | rfl | rfl | rfl | rfl | rfl | rfl | rfl | rfl <;> rfl⟩
theorem nw_X10_48 : Nw RX10 48 1 4 [.null, .null, .null, .int 0] := ⟨_, _, _, clkX1, big_at 270 (by decide +kernel) rfl, big_at 271 (by decide +kernel) rfl, big_at 53 (by decide +kernel) rfl, fun j hj => by
  rcases (show j = 0 ∨ j = 1 ∨ j = 2 ∨ j = 3 by omega) with rfl | rfl | rfl | rfl <;> rfl⟩
theorem nw_X10_55 : Nw RX10 55 2 2 [.long 0, .long 0] := ⟨_, _, _, clkX2, big_at 289 (by decide +kernel) rfl, big_at 290 (by decide +kernel) rfl, big_at 54 (by decide +kernel) rfl, fun j hj => by
  rcases (show j = 0 ∨ j = 1 by omega) with rfl | rfl <;> rfl⟩
theorem nw_X10_69 : Nw RX10 69 8 5 [.long 0, .int 0, .int 0, .int 0, .int 0] := ⟨_, _, _, clkX8, big_at 304 (by decide +kernel) rfl, big_at 305 (by decide +kernel) rfl, big_at 55 (by decide +kernel) rfl, fun j hj => by
  rcases (show j = 0 ∨ j = 1 ∨ j = 2 ∨ j = 3 ∨ j = 4 by omega) with rfl | rfl | rfl | rfl | rfl <;> rfl⟩
theorem nw_X10_76 : Nw RX10 76 7 4 [.null, .null, .null, .null] := ⟨_, _, _, clkX7, big_at 326 (by decide +kernel) rfl, big_at 327 (by decide +kernel) rfl, big_at 56 (by decide +kernel) rfl, fun j hj => by
  rcases (show j = 0 ∨ j = 1 ∨ j = 2 ∨ j = 3 by omega) with rfl | rfl | rfl | rfl <;> rfl⟩
theorem nw_X7_21 : Nw RX7 21 2 2 [.long 0, .long 0] := ⟨_, _, _, clkX2, big_at 332 (by decide +kernel) rfl, big_at 290 (by decide +kernel) rfl, big_at 54 (by decide +kernel) rfl, fun j hj => by
  rcases (show j = 0 ∨ j = 1 by omega) with rfl | rfl <;> rfl⟩
theorem nw_L_10 : Nw RL 10 13 8 [.int 0, .int 0, .int 0, .null, .null, .null, .null, .null] := ⟨_, _, _, clkL, big_at 552 (by decide +kernel) rfl, big_at 553 (by decide +kernel) rfl, big_at 45 (by decide +kernel) rfl, fun j hj => by
  rcases (show j = 0 ∨ j = 1 ∨ j = 2 ∨ j = 3 ∨ j = 4 ∨ j = 5 ∨ j = 6 ∨ j = 7 by omega) with rfl | rfl | rfl | rfl | rfl | rfl | rfl | rfl <;> rfl⟩
theorem nw_L_113 : Nw RL 113 12 4 [.null, .int 0, .int 0, .int 0] := ⟨_, _, _, clkJ4, big_at 1008 (by decide +kernel) rfl, big_at 1009 (by decide +kernel) rfl, big_at 58 (by decide +kernel) rfl, fun j hj => by
  rcases (show j = 0 ∨ j = 1 ∨ j = 2 ∨ j = 3 by omega) with rfl | rfl | rfl | rfl <;> rfl⟩
theorem nw_J4_18 : Nw RJ4 18 11 4 [.null, .int 0, .int 0, .int 0] := ⟨_, _, _, clkJ0, big_at 1184 (by decide +kernel) rfl, big_at 1185 (by decide +kernel) rfl, big_at 59 (by decide +kernel) rfl, fun j hj => by
  rcases (show j = 0 ∨ j = 1 ∨ j = 2 ∨ j = 3 by omega) with rfl | rfl | rfl | rfl <;> rfl⟩
abbrev mX10_init : Md := (yX10_init, cX10_init, 1, none, [])
theorem mw_X10_init : MwI mX10_init 0 := ⟨⟨big_at 79 (by decide +kernel) rfl, big_at 46 (by decide +kernel) rfl, ⟨by decide +kernel, by decide +kernel⟩, by decide +kernel⟩, rfl, big_at 78 (by decide +kernel) rfl⟩
abbrev mX3_init : Md := (yX3_init, cX3_init, 1, none, [])
theorem mw_X3_init : MwI mX3_init 0 := ⟨⟨big_at 87 (by decide +kernel) rfl, big_at 47 (by decide +kernel) rfl, ⟨by decide +kernel, by decide +kernel⟩, by decide +kernel⟩, rfl, big_at 86 (by decide +kernel) rfl⟩
abbrev mX4_init : Md := (yX4_init, cX4_init, 2, none, [])
theorem mw_X4_init : MwI mX4_init 0 := ⟨⟨big_at 140 (by decide +kernel) rfl, big_at 48 (by decide +kernel) rfl, ⟨by decide +kernel, by decide +kernel⟩, by decide +kernel⟩, rfl, big_at 139 (by decide +kernel) rfl⟩
abbrev mX6_init : Md := (yX6_init, cX6_init, 1, none, [])
theorem mw_X6_init : MwI mX6_init 0 := ⟨⟨big_at 159 (by decide +kernel) rfl, big_at 49 (by decide +kernel) rfl, ⟨by decide +kernel, by decide +kernel⟩, by decide +kernel⟩, rfl, big_at 158 (by decide +kernel) rfl⟩
abbrev mX9_init : Md := (yX9_init, cX9_init, 1, none, [])
theorem mw_X9_init : MwI mX9_init 0 := ⟨⟨big_at 165 (by decide +kernel) rfl, big_at 50 (by decide +kernel) rfl, ⟨by decide +kernel, by decide +kernel⟩, by decide +kernel⟩, rfl, big_at 164 (by decide +kernel) rfl⟩
abbrev mX0_init : Md := (yX0_init, cX0_init, 1, none, [])
theorem mw_X0_init : MwI mX0_init 0 := ⟨⟨big_at 242 (by decide +kernel) rfl, big_at 51 (by decide +kernel) rfl, ⟨by decide +kernel, by decide +kernel⟩, by decide +kernel⟩, rfl, big_at 241 (by decide +kernel) rfl⟩
abbrev mX5_init : Md := (yX5_init, cX5_init, 1, none, [])
theorem mw_X5_init : MwI mX5_init 0 := ⟨⟨big_at 255 (by decide +kernel) rfl, big_at 52 (by decide +kernel) rfl, ⟨by decide +kernel, by decide +kernel⟩, by decide +kernel⟩, rfl, big_at 254 (by decide +kernel) rfl⟩
abbrev mX1_init : Md := (yX1_init, cX1_init, 1, none, [])
theorem mw_X1_init : MwI mX1_init 0 := ⟨⟨big_at 274 (by decide +kernel) rfl, big_at 53 (by decide +kernel) rfl, ⟨by decide +kernel, by decide +kernel⟩, by decide +kernel⟩, rfl, big_at 273 (by decide +kernel) rfl⟩
abbrev mX2_init : Md := (yX2_init, cX2_init, 1, none, [])
theorem mw_X2_init : MwI mX2_init 0 := ⟨⟨big_at 293 (by decide +kernel) rfl, big_at 54 (by decide +kernel) rfl, ⟨by decide +kernel, by decide +kernel⟩, by decide +kernel⟩, rfl, big_at 292 (by decide +kernel) rfl⟩
abbrev mX8_init : Md := (yX8_init, cX8_init, 1, none, [])
theorem mw_X8_init : MwI mX8_init 0 := ⟨⟨big_at 308 (by decide +kernel) rfl, big_at 55 (by decide +kernel) rfl, ⟨by decide +kernel, by decide +kernel⟩, by decide +kernel⟩, rfl, big_at 307 (by decide +kernel) rfl⟩
abbrev mX7_init : Md := (yX7_init, cX7_init, 1, none, [])
theorem mw_X7_init : MwI mX7_init 0 := ⟨⟨big_at 330 (by decide +kernel) rfl, big_at 56 (by decide +kernel) rfl, ⟨by decide +kernel, by decide +kernel⟩, by decide +kernel⟩, rfl, big_at 329 (by decide +kernel) rfl⟩
abbrev mX10_degree : Md := (yX10_degree, cX10_degree, 2, (some .int), [])
theorem mw_X10_degree : MwV mX10_degree 1 := ⟨⟨big_at 388 (by decide +kernel) rfl, big_at 46 (by decide +kernel) rfl, ⟨by decide +kernel, by decide +kernel⟩, by decide +kernel⟩, big_at 386 (by decide +kernel) rfl, big_at 387 (by decide +kernel) rfl⟩
abbrev mX10_requireVertex : Md := (yX10_requireVertex, cX10_requireVertex, 2, none, [])
theorem mw_X10_requireVertex : MwV mX10_requireVertex 1 := ⟨⟨big_at 392 (by decide +kernel) rfl, big_at 46 (by decide +kernel) rfl, ⟨by decide +kernel, by decide +kernel⟩, by decide +kernel⟩, big_at 391 (by decide +kernel) rfl, big_at 0 (by decide +kernel) rfl⟩
abbrev mX3_sumOfWeights : Md := (yX3_sumOfWeights, cX3_sumOfWeights, 4, (some .int), [])
theorem mw_X3_sumOfWeights : MwV mX3_sumOfWeights 1 := ⟨⟨big_at 463 (by decide +kernel) rfl, big_at 47 (by decide +kernel) rfl, ⟨by decide +kernel, by decide +kernel⟩, by decide +kernel⟩, big_at 461 (by decide +kernel) rfl, big_at 462 (by decide +kernel) rfl⟩
abbrev mX3_weightBetween : Md := (yX3_weightBetween, cX3_weightBetween, 3, (some .int), [])
theorem mw_X3_weightBetween : MwV mX3_weightBetween 2 := ⟨⟨big_at 467 (by decide +kernel) rfl, big_at 47 (by decide +kernel) rfl, ⟨by decide +kernel, by decide +kernel⟩, by decide +kernel⟩, big_at 465 (by decide +kernel) rfl, big_at 466 (by decide +kernel) rfl⟩
abbrev mX10_trees : Md := (yX10_trees, cX10_trees, 1, (some .long), [])
theorem mw_X10_trees : MwV mX10_trees 0 := ⟨⟨big_at 471 (by decide +kernel) rfl, big_at 46 (by decide +kernel) rfl, ⟨by decide +kernel, by decide +kernel⟩, by decide +kernel⟩, big_at 469 (by decide +kernel) rfl, big_at 470 (by decide +kernel) rfl⟩
abbrev mX10_countTrees : Md := (yX10_countTrees, cX10_countTrees, 1, (some .long), [])
theorem mw_X10_countTrees : MwV mX10_countTrees 0 := ⟨⟨big_at 475 (by decide +kernel) rfl, big_at 46 (by decide +kernel) rfl, ⟨by decide +kernel, by decide +kernel⟩, by decide +kernel⟩, big_at 474 (by decide +kernel) rfl, big_at 2 (by decide +kernel) rfl⟩
abbrev mX1_treesOf : Md := (yX1_treesOf, cX1_treesOf, 3, (some .long), [])
theorem mw_X1_treesOf : MwV mX1_treesOf 1 := ⟨⟨big_at 479 (by decide +kernel) rfl, big_at 53 (by decide +kernel) rfl, ⟨by decide +kernel, by decide +kernel⟩, by decide +kernel⟩, big_at 477 (by decide +kernel) rfl, big_at 478 (by decide +kernel) rfl⟩
abbrev mX1_build : Md := (yX1_build, cX1_build, 8, none, [])
theorem mw_X1_build : MwV mX1_build 4 := ⟨⟨big_at 483 (by decide +kernel) rfl, big_at 53 (by decide +kernel) rfl, ⟨by decide +kernel, by decide +kernel⟩, by decide +kernel⟩, big_at 482 (by decide +kernel) rfl, big_at 3 (by decide +kernel) rfl⟩
abbrev mX1_putCell : Md := (yX1_putCell, cX1_putCell, 5, none, [])
theorem mw_X1_putCell : MwV mX1_putCell 3 := ⟨⟨big_at 489 (by decide +kernel) rfl, big_at 53 (by decide +kernel) rfl, ⟨by decide +kernel, by decide +kernel⟩, by decide +kernel⟩, big_at 488 (by decide +kernel) rfl, big_at 4 (by decide +kernel) rfl⟩
abbrev mX1_eliminate : Md := (yX1_eliminate, cX1_eliminate, 10, (some .boolean), [])
theorem mw_X1_eliminate : MwV mX1_eliminate 0 := ⟨⟨big_at 493 (by decide +kernel) rfl, big_at 53 (by decide +kernel) rfl, ⟨by decide +kernel, by decide +kernel⟩, by decide +kernel⟩, big_at 492 (by decide +kernel) rfl, big_at 5 (by decide +kernel) rfl⟩
abbrev mX1_cell : Md := (yX1_cell, cX1_cell, 3, (some .long), [])
theorem mw_X1_cell : MwV mX1_cell 2 := ⟨⟨big_at 497 (by decide +kernel) rfl, big_at 53 (by decide +kernel) rfl, ⟨by decide +kernel, by decide +kernel⟩, by decide +kernel⟩, big_at 496 (by decide +kernel) rfl, big_at 6 (by decide +kernel) rfl⟩
abbrev mX10_absorbing : Md := (yX10_absorbing, cX10_absorbing, 1, (some .int), [])
theorem mw_X10_absorbing : MwV mX10_absorbing 0 := ⟨⟨big_at 501 (by decide +kernel) rfl, big_at 46 (by decide +kernel) rfl, ⟨by decide +kernel, by decide +kernel⟩, by decide +kernel⟩, big_at 499 (by decide +kernel) rfl, big_at 500 (by decide +kernel) rfl⟩
abbrev mX10_after : Md := (yX10_after, cX10_after, 4, (some .float), [])
theorem mw_X10_after : MwV mX10_after 3 := ⟨⟨big_at 505 (by decide +kernel) rfl, big_at 46 (by decide +kernel) rfl, ⟨by decide +kernel, by decide +kernel⟩, by decide +kernel⟩, big_at 503 (by decide +kernel) rfl, big_at 504 (by decide +kernel) rfl⟩
abbrev mX7_chanceAfter : Md := (yX7_chanceAfter, cX7_chanceAfter, 7, (some .float), [])
theorem mw_X7_chanceAfter : MwV mX7_chanceAfter 4 := ⟨⟨big_at 525 (by decide +kernel) rfl, big_at 56 (by decide +kernel) rfl, ⟨by decide +kernel, by decide +kernel⟩, by decide +kernel⟩, big_at 523 (by decide +kernel) rfl, big_at 524 (by decide +kernel) rfl⟩
abbrev mX7_fillChances : Md := (yX7_fillChances, cX7_fillChances, 4, none, [])
theorem mw_X7_fillChances : MwV mX7_fillChances 1 := ⟨⟨big_at 529 (by decide +kernel) rfl, big_at 56 (by decide +kernel) rfl, ⟨by decide +kernel, by decide +kernel⟩, by decide +kernel⟩, big_at 528 (by decide +kernel) rfl, big_at 7 (by decide +kernel) rfl⟩
abbrev mX3_stepChance : Md := (yX3_stepChance, cX3_stepChance, 5, none, [])
theorem mw_X3_stepChance : MwV mX3_stepChance 3 := ⟨⟨big_at 533 (by decide +kernel) rfl, big_at 47 (by decide +kernel) rfl, ⟨by decide +kernel, by decide +kernel⟩, by decide +kernel⟩, big_at 531 (by decide +kernel) rfl, big_at 532 (by decide +kernel) rfl⟩
abbrev mX2_put : Md := (yX2_put, cX2_put, 7, none, [])
theorem mw_X2_put : MwV mX2_put 2 := ⟨⟨big_at 538 (by decide +kernel) rfl, big_at 54 (by decide +kernel) rfl, ⟨by decide +kernel, by decide +kernel⟩, by decide +kernel⟩, big_at 536 (by decide +kernel) rfl, big_at 537 (by decide +kernel) rfl⟩
abbrev mX2_commonDivisor : Md := (yX2_commonDivisor, cX2_commonDivisor, 11, (some .long), [])
theorem mw_X2_commonDivisor : MwS mX2_commonDivisor 2 := ⟨⟨big_at 541 (by decide +kernel) rfl, big_at 54 (by decide +kernel) rfl, ⟨by decide +kernel, by decide +kernel⟩, by decide +kernel⟩, big_at 540 (by decide +kernel) rfl⟩
abbrev mJ9_abs_067f4 : Md := (yJ9_abs_067f4, cJ9_abs_067f4, 2, (some .long), [])
theorem mw_J9_abs_067f4 : MwS mJ9_abs_067f4 1 := ⟨⟨big_at 544 (by decide +kernel) rfl, big_at 62 (by decide +kernel) rfl, ⟨by decide +kernel, by decide +kernel⟩, by decide +kernel⟩, big_at 543 (by decide +kernel) rfl⟩
abbrev mX7_chanceAt : Md := (yX7_chanceAt, cX7_chanceAt, 6, (some .float), [])
theorem mw_X7_chanceAt : MwV mX7_chanceAt 2 := ⟨⟨big_at 548 (by decide +kernel) rfl, big_at 56 (by decide +kernel) rfl, ⟨by decide +kernel, by decide +kernel⟩, by decide +kernel⟩, big_at 547 (by decide +kernel) rfl, big_at 8 (by decide +kernel) rfl⟩
abbrev mL_init : Md := (yL_init, cL_init, 1, none, [])
theorem mw_L_init : MwI mL_init 0 := ⟨⟨big_at 556 (by decide +kernel) rfl, big_at 45 (by decide +kernel) rfl, ⟨by decide +kernel, by decide +kernel⟩, by decide +kernel⟩, rfl, big_at 555 (by decide +kernel) rfl⟩
abbrev mL_cell : Md := (yL_cell, cL_cell, 2, (some .int), [])
theorem mw_L_cell : MwS mL_cell 2 := ⟨⟨big_at 587 (by decide +kernel) rfl, big_at 45 (by decide +kernel) rfl, ⟨by decide +kernel, by decide +kernel⟩, by decide +kernel⟩, big_at 586 (by decide +kernel) rfl⟩
abbrev mL_bound : Md := (yL_bound, cL_bound, 2, (some .int), [])
theorem mw_L_bound : MwS mL_bound 2 := ⟨⟨big_at 590 (by decide +kernel) rfl, big_at 45 (by decide +kernel) rfl, ⟨by decide +kernel, by decide +kernel⟩, by decide +kernel⟩, big_at 589 (by decide +kernel) rfl⟩
abbrev mL_read : Md := (yL_read, cL_read, 5, (some .int), [])
theorem mw_L_read : MwS mL_read 2 := ⟨⟨big_at 594 (by decide +kernel) rfl, big_at 45 (by decide +kernel) rfl, ⟨by decide +kernel, by decide +kernel⟩, by decide +kernel⟩, big_at 593 (by decide +kernel) rfl⟩
abbrev mJ0_length_8abf5 : Md := (yJ0_length_8abf5, cJ0_length_8abf5, 1, (some .int), [])
theorem mw_J0_length_8abf5 : MwV mJ0_length_8abf5 0 := ⟨⟨big_at 598 (by decide +kernel) rfl, big_at 59 (by decide +kernel) rfl, ⟨by decide +kernel, by decide +kernel⟩, by decide +kernel⟩, big_at 596 (by decide +kernel) rfl, big_at 597 (by decide +kernel) rfl⟩
abbrev mJ0_coder_7d493 : Md := (yJ0_coder_7d493, cJ0_coder_7d493, 1, (some .byte), [])
theorem mw_J0_coder_7d493 : MwV mJ0_coder_7d493 0 := ⟨⟨big_at 602 (by decide +kernel) rfl, big_at 59 (by decide +kernel) rfl, ⟨by decide +kernel, by decide +kernel⟩, by decide +kernel⟩, big_at 600 (by decide +kernel) rfl, big_at 601 (by decide +kernel) rfl⟩
abbrev mJ0_charAt_5068e : Md := (yJ0_charAt_5068e, cJ0_charAt_5068e, 2, (some .char), [])
theorem mw_J0_charAt_5068e : MwV mJ0_charAt_5068e 1 := ⟨⟨big_at 608 (by decide +kernel) rfl, big_at 59 (by decide +kernel) rfl, ⟨by decide +kernel, by decide +kernel⟩, by decide +kernel⟩, big_at 606 (by decide +kernel) rfl, big_at 607 (by decide +kernel) rfl⟩
abbrev mJ0_isLatin1_aae02 : Md := (yJ0_isLatin1_aae02, cJ0_isLatin1_aae02, 1, (some .boolean), [])
theorem mw_J0_isLatin1_aae02 : MwV mJ0_isLatin1_aae02 0 := ⟨⟨big_at 612 (by decide +kernel) rfl, big_at 59 (by decide +kernel) rfl, ⟨by decide +kernel, by decide +kernel⟩, by decide +kernel⟩, big_at 610 (by decide +kernel) rfl, big_at 611 (by decide +kernel) rfl⟩
abbrev mJ1_charAt_3b067 : Md := (yJ1_charAt_3b067, cJ1_charAt_3b067, 2, (some .char), [])
theorem mw_J1_charAt_3b067 : MwS mJ1_charAt_3b067 2 := ⟨⟨big_at 615 (by decide +kernel) rfl, big_at 66 (by decide +kernel) rfl, ⟨by decide +kernel, by decide +kernel⟩, by decide +kernel⟩, big_at 614 (by decide +kernel) rfl⟩
abbrev mJ0_checkIndex_df160 : Md := (yJ0_checkIndex_df160, cJ0_checkIndex_df160, 2, none, [])
theorem mw_J0_checkIndex_df160 : MwS mJ0_checkIndex_df160 2 := ⟨⟨big_at 618 (by decide +kernel) rfl, big_at 59 (by decide +kernel) rfl, ⟨by decide +kernel, by decide +kernel⟩, by decide +kernel⟩, big_at 617 (by decide +kernel) rfl⟩
abbrev mJ3_checkIndex_8e157 : Md := (yJ3_checkIndex_8e157, cJ3_checkIndex_8e157, 3, (some .int), [])
theorem mw_J3_checkIndex_8e157 : MwS mJ3_checkIndex_8e157 3 := ⟨⟨big_at 623 (by decide +kernel) rfl, big_at 65 (by decide +kernel) rfl, ⟨by decide +kernel, by decide +kernel⟩, by decide +kernel⟩, big_at 622 (by decide +kernel) rfl⟩
abbrev mJ2_charAt_3b067 : Md := (yJ2_charAt_3b067, cJ2_charAt_3b067, 2, (some .char), [])
theorem mw_J2_charAt_3b067 : MwS mJ2_charAt_3b067 2 := ⟨⟨big_at 626 (by decide +kernel) rfl, big_at 60 (by decide +kernel) rfl, ⟨by decide +kernel, by decide +kernel⟩, by decide +kernel⟩, big_at 625 (by decide +kernel) rfl⟩
abbrev mJ2_checkIndex_2214a : Md := (yJ2_checkIndex_2214a, cJ2_checkIndex_2214a, 2, none, [])
theorem mw_J2_checkIndex_2214a : MwS mJ2_checkIndex_2214a 2 := ⟨⟨big_at 629 (by decide +kernel) rfl, big_at 60 (by decide +kernel) rfl, ⟨by decide +kernel, by decide +kernel⟩, by decide +kernel⟩, big_at 628 (by decide +kernel) rfl⟩
abbrev mJ2_length_9d52b : Md := (yJ2_length_9d52b, cJ2_length_9d52b, 1, (some .int), [])
theorem mw_J2_length_9d52b : MwS mJ2_length_9d52b 1 := ⟨⟨big_at 632 (by decide +kernel) rfl, big_at 60 (by decide +kernel) rfl, ⟨by decide +kernel, by decide +kernel⟩, by decide +kernel⟩, big_at 631 (by decide +kernel) rfl⟩
abbrev mJ2_getChar_3b067 : Md := (yJ2_getChar_3b067, cJ2_getChar_3b067, 2, (some .char), [])
theorem mw_J2_getChar_3b067 : MwS mJ2_getChar_3b067 2 := ⟨⟨big_at 636 (by decide +kernel) rfl, big_at 60 (by decide +kernel) rfl, ⟨by decide +kernel, by decide +kernel⟩, by decide +kernel⟩, big_at 635 (by decide +kernel) rfl⟩
abbrev mX10_append : Md := (yX10_append, cX10_append, 7, (some .int), [])
theorem mw_X10_append : MwV mX10_append 5 := ⟨⟨big_at 646 (by decide +kernel) rfl, big_at 46 (by decide +kernel) rfl, ⟨by decide +kernel, by decide +kernel⟩, by decide +kernel⟩, big_at 644 (by decide +kernel) rfl, big_at 645 (by decide +kernel) rfl⟩
abbrev mX9_hold : Md := (yX9_hold, cX9_hold, 3, none, [])
theorem mw_X9_hold : MwV mX9_hold 1 := ⟨⟨big_at 650 (by decide +kernel) rfl, big_at 50 (by decide +kernel) rfl, ⟨by decide +kernel, by decide +kernel⟩, by decide +kernel⟩, big_at 648 (by decide +kernel) rfl, big_at 649 (by decide +kernel) rfl⟩
abbrev mX10_load : Md := (yX10_load, cX10_load, 3, (some .int), [])
theorem mw_X10_load : MwV mX10_load 1 := ⟨⟨big_at 654 (by decide +kernel) rfl, big_at 46 (by decide +kernel) rfl, ⟨by decide +kernel, by decide +kernel⟩, by decide +kernel⟩, big_at 652 (by decide +kernel) rfl, big_at 653 (by decide +kernel) rfl⟩
abbrev mX9_scan : Md := (yX9_scan, cX9_scan, 5, none, [])
theorem mw_X9_scan : MwV mX9_scan 1 := ⟨⟨big_at 659 (by decide +kernel) rfl, big_at 50 (by decide +kernel) rfl, ⟨by decide +kernel, by decide +kernel⟩, by decide +kernel⟩, big_at 657 (by decide +kernel) rfl, big_at 658 (by decide +kernel) rfl⟩
abbrev mJ9_min_7cf53 : Md := (yJ9_min_7cf53, cJ9_min_7cf53, 2, (some .int), [])
theorem mw_J9_min_7cf53 : MwS mJ9_min_7cf53 2 := ⟨⟨big_at 662 (by decide +kernel) rfl, big_at 62 (by decide +kernel) rfl, ⟨by decide +kernel, by decide +kernel⟩, by decide +kernel⟩, big_at 661 (by decide +kernel) rfl⟩
abbrev mX9_scanToken : Md := (yX9_scanToken, cX9_scanToken, 3, (some .int), [])
theorem mw_X9_scanToken : MwV mX9_scanToken 2 := ⟨⟨big_at 666 (by decide +kernel) rfl, big_at 50 (by decide +kernel) rfl, ⟨by decide +kernel, by decide +kernel⟩, by decide +kernel⟩, big_at 665 (by decide +kernel) rfl, big_at 9 (by decide +kernel) rfl⟩
abbrev mX9_isDigit : Md := (yX9_isDigit, cX9_isDigit, 1, (some .boolean), [])
theorem mw_X9_isDigit : MwS mX9_isDigit 1 := ⟨⟨big_at 669 (by decide +kernel) rfl, big_at 50 (by decide +kernel) rfl, ⟨by decide +kernel, by decide +kernel⟩, by decide +kernel⟩, big_at 668 (by decide +kernel) rfl⟩
abbrev mX9_scanNumber : Md := (yX9_scanNumber, cX9_scanNumber, 5, (some .int), [])
theorem mw_X9_scanNumber : MwV mX9_scanNumber 2 := ⟨⟨big_at 673 (by decide +kernel) rfl, big_at 50 (by decide +kernel) rfl, ⟨by decide +kernel, by decide +kernel⟩, by decide +kernel⟩, big_at 672 (by decide +kernel) rfl, big_at 10 (by decide +kernel) rfl⟩
abbrev mX9_put : Md := (yX9_put, cX9_put, 4, none, [])
theorem mw_X9_put : MwV mX9_put 3 := ⟨⟨big_at 677 (by decide +kernel) rfl, big_at 50 (by decide +kernel) rfl, ⟨by decide +kernel, by decide +kernel⟩, by decide +kernel⟩, big_at 676 (by decide +kernel) rfl, big_at 11 (by decide +kernel) rfl⟩
abbrev mX9_isLetter : Md := (yX9_isLetter, cX9_isLetter, 1, (some .boolean), [])
theorem mw_X9_isLetter : MwS mX9_isLetter 1 := ⟨⟨big_at 680 (by decide +kernel) rfl, big_at 50 (by decide +kernel) rfl, ⟨by decide +kernel, by decide +kernel⟩, by decide +kernel⟩, big_at 679 (by decide +kernel) rfl⟩
abbrev mX9_scanWord : Md := (yX9_scanWord, cX9_scanWord, 4, (some .int), [])
theorem mw_X9_scanWord : MwV mX9_scanWord 2 := ⟨⟨big_at 684 (by decide +kernel) rfl, big_at 50 (by decide +kernel) rfl, ⟨by decide +kernel, by decide +kernel⟩, by decide +kernel⟩, big_at 683 (by decide +kernel) rfl, big_at 12 (by decide +kernel) rfl⟩
abbrev mX9_kindOfWord : Md := (yX9_kindOfWord, cX9_kindOfWord, 3, (some .int), [])
theorem mw_X9_kindOfWord : MwV mX9_kindOfWord 2 := ⟨⟨big_at 688 (by decide +kernel) rfl, big_at 50 (by decide +kernel) rfl, ⟨by decide +kernel, by decide +kernel⟩, by decide +kernel⟩, big_at 687 (by decide +kernel) rfl, big_at 13 (by decide +kernel) rfl⟩
abbrev mX9_isWord : Md := (yX9_isWord, cX9_isWord, 5, (some .boolean), [])
theorem mw_X9_isWord : MwV mX9_isWord 3 := ⟨⟨big_at 693 (by decide +kernel) rfl, big_at 50 (by decide +kernel) rfl, ⟨by decide +kernel, by decide +kernel⟩, by decide +kernel⟩, big_at 692 (by decide +kernel) rfl, big_at 14 (by decide +kernel) rfl⟩
abbrev mX6_readSetup : Md := (yX6_readSetup, cX6_readSetup, 2, (some .boolean), [])
theorem mw_X6_readSetup : MwV mX6_readSetup 0 := ⟨⟨big_at 706 (by decide +kernel) rfl, big_at 49 (by decide +kernel) rfl, ⟨by decide +kernel, by decide +kernel⟩, by decide +kernel⟩, big_at 704 (by decide +kernel) rfl, big_at 705 (by decide +kernel) rfl⟩
abbrev mX6_takeToken : Md := (yX6_takeToken, cX6_takeToken, 1, none, [])
theorem mw_X6_takeToken : MwV mX6_takeToken 0 := ⟨⟨big_at 710 (by decide +kernel) rfl, big_at 49 (by decide +kernel) rfl, ⟨by decide +kernel, by decide +kernel⟩, by decide +kernel⟩, big_at 709 (by decide +kernel) rfl, big_at 15 (by decide +kernel) rfl⟩
abbrev mX6_fail : Md := (yX6_fail, cX6_fail, 2, (some .boolean), [])
theorem mw_X6_fail : MwV mX6_fail 1 := ⟨⟨big_at 714 (by decide +kernel) rfl, big_at 49 (by decide +kernel) rfl, ⟨by decide +kernel, by decide +kernel⟩, by decide +kernel⟩, big_at 713 (by decide +kernel) rfl, big_at 16 (by decide +kernel) rfl⟩
abbrev mX6_readNumber : Md := (yX6_readNumber, cX6_readNumber, 3, (some .boolean), [])
theorem mw_X6_readNumber : MwV mX6_readNumber 2 := ⟨⟨big_at 718 (by decide +kernel) rfl, big_at 49 (by decide +kernel) rfl, ⟨by decide +kernel, by decide +kernel⟩, by decide +kernel⟩, big_at 717 (by decide +kernel) rfl, big_at 17 (by decide +kernel) rfl⟩
abbrev mX3_clear : Md := (yX3_clear, cX3_clear, 3, none, [])
theorem mw_X3_clear : MwV mX3_clear 1 := ⟨⟨big_at 722 (by decide +kernel) rfl, big_at 47 (by decide +kernel) rfl, ⟨by decide +kernel, by decide +kernel⟩, by decide +kernel⟩, big_at 720 (by decide +kernel) rfl, big_at 721 (by decide +kernel) rfl⟩
abbrev mJ9_max_7cf53 : Md := (yJ9_max_7cf53, cJ9_max_7cf53, 2, (some .int), [])
theorem mw_J9_max_7cf53 : MwS mJ9_max_7cf53 2 := ⟨⟨big_at 726 (by decide +kernel) rfl, big_at 62 (by decide +kernel) rfl, ⟨by decide +kernel, by decide +kernel⟩, by decide +kernel⟩, big_at 725 (by decide +kernel) rfl⟩
abbrev mJ7_fill_53178 : Md := (yJ7_fill_53178, cJ7_fill_53178, 4, none, [])
theorem mw_J7_fill_53178 : MwS mJ7_fill_53178 2 := ⟨⟨big_at 729 (by decide +kernel) rfl, big_at 63 (by decide +kernel) rfl, ⟨by decide +kernel, by decide +kernel⟩, by decide +kernel⟩, big_at 728 (by decide +kernel) rfl⟩
abbrev mX6_readSemicolon : Md := (yX6_readSemicolon, cX6_readSemicolon, 1, (some .boolean), [])
theorem mw_X6_readSemicolon : MwV mX6_readSemicolon 0 := ⟨⟨big_at 733 (by decide +kernel) rfl, big_at 49 (by decide +kernel) rfl, ⟨by decide +kernel, by decide +kernel⟩, by decide +kernel⟩, big_at 732 (by decide +kernel) rfl, big_at 18 (by decide +kernel) rfl⟩
abbrev mX6_readStatement : Md := (yX6_readStatement, cX6_readStatement, 1, (some .boolean), [])
theorem mw_X6_readStatement : MwV mX6_readStatement 0 := ⟨⟨big_at 737 (by decide +kernel) rfl, big_at 49 (by decide +kernel) rfl, ⟨by decide +kernel, by decide +kernel⟩, by decide +kernel⟩, big_at 736 (by decide +kernel) rfl, big_at 19 (by decide +kernel) rfl⟩
abbrev mX6_readEdge : Md := (yX6_readEdge, cX6_readEdge, 3, (some .boolean), [])
theorem mw_X6_readEdge : MwV mX6_readEdge 0 := ⟨⟨big_at 741 (by decide +kernel) rfl, big_at 49 (by decide +kernel) rfl, ⟨by decide +kernel, by decide +kernel⟩, by decide +kernel⟩, big_at 740 (by decide +kernel) rfl, big_at 20 (by decide +kernel) rfl⟩
abbrev mX6_readVertex : Md := (yX6_readVertex, cX6_readVertex, 1, (some .boolean), [])
theorem mw_X6_readVertex : MwV mX6_readVertex 0 := ⟨⟨big_at 745 (by decide +kernel) rfl, big_at 49 (by decide +kernel) rfl, ⟨by decide +kernel, by decide +kernel⟩, by decide +kernel⟩, big_at 744 (by decide +kernel) rfl, big_at 21 (by decide +kernel) rfl⟩
abbrev mX3_putEdge : Md := (yX3_putEdge, cX3_putEdge, 4, none, [])
theorem mw_X3_putEdge : MwV mX3_putEdge 3 := ⟨⟨big_at 750 (by decide +kernel) rfl, big_at 47 (by decide +kernel) rfl, ⟨by decide +kernel, by decide +kernel⟩, by decide +kernel⟩, big_at 748 (by decide +kernel) rfl, big_at 749 (by decide +kernel) rfl⟩
abbrev mX3_putWeight : Md := (yX3_putWeight, cX3_putWeight, 4, none, [])
theorem mw_X3_putWeight : MwV mX3_putWeight 3 := ⟨⟨big_at 754 (by decide +kernel) rfl, big_at 47 (by decide +kernel) rfl, ⟨by decide +kernel, by decide +kernel⟩, by decide +kernel⟩, big_at 752 (by decide +kernel) rfl, big_at 753 (by decide +kernel) rfl⟩
abbrev mX6_readAbsorb : Md := (yX6_readAbsorb, cX6_readAbsorb, 1, (some .boolean), [])
theorem mw_X6_readAbsorb : MwV mX6_readAbsorb 0 := ⟨⟨big_at 758 (by decide +kernel) rfl, big_at 49 (by decide +kernel) rfl, ⟨by decide +kernel, by decide +kernel⟩, by decide +kernel⟩, big_at 757 (by decide +kernel) rfl, big_at 22 (by decide +kernel) rfl⟩
abbrev mX3_isAbsorbing : Md := (yX3_isAbsorbing, cX3_isAbsorbing, 2, (some .boolean), [])
theorem mw_X3_isAbsorbing : MwV mX3_isAbsorbing 1 := ⟨⟨big_at 762 (by decide +kernel) rfl, big_at 47 (by decide +kernel) rfl, ⟨by decide +kernel, by decide +kernel⟩, by decide +kernel⟩, big_at 760 (by decide +kernel) rfl, big_at 761 (by decide +kernel) rfl⟩
abbrev mX6_readJoin : Md := (yX6_readJoin, cX6_readJoin, 2, (some .boolean), [])
theorem mw_X6_readJoin : MwV mX6_readJoin 0 := ⟨⟨big_at 766 (by decide +kernel) rfl, big_at 49 (by decide +kernel) rfl, ⟨by decide +kernel, by decide +kernel⟩, by decide +kernel⟩, big_at 765 (by decide +kernel) rfl, big_at 23 (by decide +kernel) rfl⟩
abbrev mX3_uniteBlocks : Md := (yX3_uniteBlocks, cX3_uniteBlocks, 6, none, [])
theorem mw_X3_uniteBlocks : MwV mX3_uniteBlocks 2 := ⟨⟨big_at 770 (by decide +kernel) rfl, big_at 47 (by decide +kernel) rfl, ⟨by decide +kernel, by decide +kernel⟩, by decide +kernel⟩, big_at 768 (by decide +kernel) rfl, big_at 769 (by decide +kernel) rfl⟩
abbrev mX3_numberBlocks : Md := (yX3_numberBlocks, cX3_numberBlocks, 3, none, [])
theorem mw_X3_numberBlocks : MwV mX3_numberBlocks 0 := ⟨⟨big_at 774 (by decide +kernel) rfl, big_at 47 (by decide +kernel) rfl, ⟨by decide +kernel, by decide +kernel⟩, by decide +kernel⟩, big_at 773 (by decide +kernel) rfl, big_at 24 (by decide +kernel) rfl⟩
abbrev mX6_readCost : Md := (yX6_readCost, cX6_readCost, 4, (some .boolean), [])
theorem mw_X6_readCost : MwV mX6_readCost 0 := ⟨⟨big_at 779 (by decide +kernel) rfl, big_at 49 (by decide +kernel) rfl, ⟨by decide +kernel, by decide +kernel⟩, by decide +kernel⟩, big_at 778 (by decide +kernel) rfl, big_at 25 (by decide +kernel) rfl⟩
abbrev mX6_postpone : Md := (yX6_postpone, cX6_postpone, 2, none, [])
theorem mw_X6_postpone : MwV mX6_postpone 1 := ⟨⟨big_at 783 (by decide +kernel) rfl, big_at 49 (by decide +kernel) rfl, ⟨by decide +kernel, by decide +kernel⟩, by decide +kernel⟩, big_at 782 (by decide +kernel) rfl, big_at 26 (by decide +kernel) rfl⟩
abbrev mX6_readFactor : Md := (yX6_readFactor, cX6_readFactor, 1, (some .boolean), [])
theorem mw_X6_readFactor : MwV mX6_readFactor 0 := ⟨⟨big_at 787 (by decide +kernel) rfl, big_at 49 (by decide +kernel) rfl, ⟨by decide +kernel, by decide +kernel⟩, by decide +kernel⟩, big_at 786 (by decide +kernel) rfl, big_at 27 (by decide +kernel) rfl⟩
abbrev mX6_emit : Md := (yX6_emit, cX6_emit, 2, none, [])
theorem mw_X6_emit : MwV mX6_emit 1 := ⟨⟨big_at 791 (by decide +kernel) rfl, big_at 49 (by decide +kernel) rfl, ⟨by decide +kernel, by decide +kernel⟩, by decide +kernel⟩, big_at 790 (by decide +kernel) rfl, big_at 28 (by decide +kernel) rfl⟩
abbrev mX6_strength : Md := (yX6_strength, cX6_strength, 1, (some .int), [])
theorem mw_X6_strength : MwS mX6_strength 1 := ⟨⟨big_at 794 (by decide +kernel) rfl, big_at 49 (by decide +kernel) rfl, ⟨by decide +kernel, by decide +kernel⟩, by decide +kernel⟩, big_at 793 (by decide +kernel) rfl⟩
abbrev mX6_release : Md := (yX6_release, cX6_release, 2, none, [])
theorem mw_X6_release : MwV mX6_release 1 := ⟨⟨big_at 798 (by decide +kernel) rfl, big_at 49 (by decide +kernel) rfl, ⟨by decide +kernel, by decide +kernel⟩, by decide +kernel⟩, big_at 797 (by decide +kernel) rfl, big_at 29 (by decide +kernel) rfl⟩
abbrev mX6_operation : Md := (yX6_operation, cX6_operation, 1, (some .int), [])
theorem mw_X6_operation : MwS mX6_operation 1 := ⟨⟨big_at 801 (by decide +kernel) rfl, big_at 49 (by decide +kernel) rfl, ⟨by decide +kernel, by decide +kernel⟩, by decide +kernel⟩, big_at 800 (by decide +kernel) rfl⟩
abbrev mJ7_copyOf_59c91 : Md := (yJ7_copyOf_59c91, cJ7_copyOf_59c91, 3, (some (.array .int)), [])
theorem mw_J7_copyOf_59c91 : MwS mJ7_copyOf_59c91 2 := ⟨⟨big_at 804 (by decide +kernel) rfl, big_at 63 (by decide +kernel) rfl, ⟨by decide +kernel, by decide +kernel⟩, by decide +kernel⟩, big_at 803 (by decide +kernel) rfl⟩
abbrev mX4_keep : Md := (yX4_keep, cX4_keep, 2, none, [])
theorem mw_X4_keep : MwV mX4_keep 1 := ⟨⟨big_at 817 (by decide +kernel) rfl, big_at 48 (by decide +kernel) rfl, ⟨by decide +kernel, by decide +kernel⟩, by decide +kernel⟩, big_at 815 (by decide +kernel) rfl, big_at 816 (by decide +kernel) rfl⟩
abbrev mX3_copyFrom : Md := (yX3_copyFrom, cX3_copyFrom, 2, none, [])
theorem mw_X3_copyFrom : MwV mX3_copyFrom 1 := ⟨⟨big_at 821 (by decide +kernel) rfl, big_at 47 (by decide +kernel) rfl, ⟨by decide +kernel, by decide +kernel⟩, by decide +kernel⟩, big_at 819 (by decide +kernel) rfl, big_at 820 (by decide +kernel) rfl⟩
abbrev mL_areHits : Md := (yL_areHits, cL_areHits, 8, (some .boolean), [])
theorem mw_L_areHits : MwV mL_areHits 3 := ⟨⟨big_at 827 (by decide +kernel) rfl, big_at 45 (by decide +kernel) rfl, ⟨by decide +kernel, by decide +kernel⟩, by decide +kernel⟩, big_at 826 (by decide +kernel) rfl, big_at 30 (by decide +kernel) rfl⟩
abbrev mL_reached : Md := (yL_reached, cL_reached, 6, (some (.array .boolean)), [])
theorem mw_L_reached : MwV mL_reached 1 := ⟨⟨big_at 831 (by decide +kernel) rfl, big_at 45 (by decide +kernel) rfl, ⟨by decide +kernel, by decide +kernel⟩, by decide +kernel⟩, big_at 830 (by decide +kernel) rfl, big_at 31 (by decide +kernel) rfl⟩
abbrev mX10_hittingCost : Md := (yX10_hittingCost, cX10_hittingCost, 4, (some .long), [])
theorem mw_X10_hittingCost : MwV mX10_hittingCost 3 := ⟨⟨big_at 835 (by decide +kernel) rfl, big_at 46 (by decide +kernel) rfl, ⟨by decide +kernel, by decide +kernel⟩, by decide +kernel⟩, big_at 833 (by decide +kernel) rfl, big_at 834 (by decide +kernel) rfl⟩
abbrev mX10_requireWay : Md := (yX10_requireWay, cX10_requireWay, 3, none, [])
theorem mw_X10_requireWay : MwV mX10_requireWay 2 := ⟨⟨big_at 839 (by decide +kernel) rfl, big_at 46 (by decide +kernel) rfl, ⟨by decide +kernel, by decide +kernel⟩, by decide +kernel⟩, big_at 838 (by decide +kernel) rfl, big_at 32 (by decide +kernel) rfl⟩
abbrev mX3_hasWay : Md := (yX3_hasWay, cX3_hasWay, 3, (some .boolean), [])
theorem mw_X3_hasWay : MwV mX3_hasWay 2 := ⟨⟨big_at 843 (by decide +kernel) rfl, big_at 47 (by decide +kernel) rfl, ⟨by decide +kernel, by decide +kernel⟩, by decide +kernel⟩, big_at 841 (by decide +kernel) rfl, big_at 842 (by decide +kernel) rfl⟩
abbrev mX3_component : Md := (yX3_component, cX3_component, 5, (some .int), [])
theorem mw_X3_component : MwV mX3_component 1 := ⟨⟨big_at 847 (by decide +kernel) rfl, big_at 47 (by decide +kernel) rfl, ⟨by decide +kernel, by decide +kernel⟩, by decide +kernel⟩, big_at 845 (by decide +kernel) rfl, big_at 846 (by decide +kernel) rfl⟩
abbrev mX3_neighbours : Md := (yX3_neighbours, cX3_neighbours, 4, (some .int), [])
theorem mw_X3_neighbours : MwV mX3_neighbours 1 := ⟨⟨big_at 851 (by decide +kernel) rfl, big_at 47 (by decide +kernel) rfl, ⟨by decide +kernel, by decide +kernel⟩, by decide +kernel⟩, big_at 850 (by decide +kernel) rfl, big_at 33 (by decide +kernel) rfl⟩
abbrev mX10_gainCosts : Md := (yX10_gainCosts, cX10_gainCosts, 5, none, [])
theorem mw_X10_gainCosts : MwV mX10_gainCosts 0 := ⟨⟨big_at 872 (by decide +kernel) rfl, big_at 46 (by decide +kernel) rfl, ⟨by decide +kernel, by decide +kernel⟩, by decide +kernel⟩, big_at 871 (by decide +kernel) rfl, big_at 34 (by decide +kernel) rfl⟩
abbrev mX0_fillTable : Md := (yX0_fillTable, cX0_fillTable, 5, none, [])
theorem mw_X0_fillTable : MwV mX0_fillTable 1 := ⟨⟨big_at 876 (by decide +kernel) rfl, big_at 51 (by decide +kernel) rfl, ⟨by decide +kernel, by decide +kernel⟩, by decide +kernel⟩, big_at 874 (by decide +kernel) rfl, big_at 875 (by decide +kernel) rfl⟩
abbrev mX0_costOfStep : Md := (yX0_costOfStep, cX0_costOfStep, 5, (some .int), [])
theorem mw_X0_costOfStep : MwV mX0_costOfStep 3 := ⟨⟨big_at 881 (by decide +kernel) rfl, big_at 51 (by decide +kernel) rfl, ⟨by decide +kernel, by decide +kernel⟩, by decide +kernel⟩, big_at 879 (by decide +kernel) rfl, big_at 880 (by decide +kernel) rfl⟩
abbrev mX0_evaluate : Md := (yX0_evaluate, cX0_evaluate, 8, (some .int), [])
theorem mw_X0_evaluate : MwV mX0_evaluate 4 := ⟨⟨big_at 886 (by decide +kernel) rfl, big_at 51 (by decide +kernel) rfl, ⟨by decide +kernel, by decide +kernel⟩, by decide +kernel⟩, big_at 885 (by decide +kernel) rfl, big_at 35 (by decide +kernel) rfl⟩
abbrev mX0_operand : Md := (yX0_operand, cX0_operand, 4, (some .int), [])
theorem mw_X0_operand : MwS mX0_operand 4 := ⟨⟨big_at 889 (by decide +kernel) rfl, big_at 51 (by decide +kernel) rfl, ⟨by decide +kernel, by decide +kernel⟩, by decide +kernel⟩, big_at 888 (by decide +kernel) rfl⟩
abbrev mX0_operate : Md := (yX0_operate, cX0_operate, 7, (some .int), [])
theorem mw_X0_operate : MwS mX0_operate 3 := ⟨⟨big_at 892 (by decide +kernel) rfl, big_at 51 (by decide +kernel) rfl, ⟨by decide +kernel, by decide +kernel⟩, by decide +kernel⟩, big_at 891 (by decide +kernel) rfl⟩
abbrev mJ9_min_f86c9 : Md := (yJ9_min_f86c9, cJ9_min_f86c9, 4, (some .long), [])
theorem mw_J9_min_f86c9 : MwS mJ9_min_f86c9 2 := ⟨⟨big_at 897 (by decide +kernel) rfl, big_at 62 (by decide +kernel) rfl, ⟨by decide +kernel, by decide +kernel⟩, by decide +kernel⟩, big_at 896 (by decide +kernel) rfl⟩
abbrev mJ9_max_f86c9 : Md := (yJ9_max_f86c9, cJ9_max_f86c9, 4, (some .long), [])
theorem mw_J9_max_f86c9 : MwS mJ9_max_f86c9 2 := ⟨⟨big_at 900 (by decide +kernel) rfl, big_at 62 (by decide +kernel) rfl, ⟨by decide +kernel, by decide +kernel⟩, by decide +kernel⟩, big_at 899 (by decide +kernel) rfl⟩
abbrev mX0_tabled : Md := (yX0_tabled, cX0_tabled, 3, (some .int), [])
theorem mw_X0_tabled : MwV mX0_tabled 2 := ⟨⟨big_at 907 (by decide +kernel) rfl, big_at 51 (by decide +kernel) rfl, ⟨by decide +kernel, by decide +kernel⟩, by decide +kernel⟩, big_at 905 (by decide +kernel) rfl, big_at 906 (by decide +kernel) rfl⟩
abbrev mX1_meanUntil : Md := (yX1_meanUntil, cX1_meanUntil, 6, none, [])
theorem mw_X1_meanUntil : MwV mX1_meanUntil 5 := ⟨⟨big_at 911 (by decide +kernel) rfl, big_at 53 (by decide +kernel) rfl, ⟨by decide +kernel, by decide +kernel⟩, by decide +kernel⟩, big_at 909 (by decide +kernel) rfl, big_at 910 (by decide +kernel) rfl⟩
abbrev mX1_solve : Md := (yX1_solve, cX1_solve, 6, none, [])
theorem mw_X1_solve : MwV mX1_solve 5 := ⟨⟨big_at 917 (by decide +kernel) rfl, big_at 53 (by decide +kernel) rfl, ⟨by decide +kernel, by decide +kernel⟩, by decide +kernel⟩, big_at 915 (by decide +kernel) rfl, big_at 916 (by decide +kernel) rfl⟩
abbrev mX2_part : Md := (yX2_part, cX2_part, 2, (some .long), [])
theorem mw_X2_part : MwV mX2_part 1 := ⟨⟨big_at 921 (by decide +kernel) rfl, big_at 54 (by decide +kernel) rfl, ⟨by decide +kernel, by decide +kernel⟩, by decide +kernel⟩, big_at 919 (by decide +kernel) rfl, big_at 920 (by decide +kernel) rfl⟩
abbrev mX10_hittingTime : Md := (yX10_hittingTime, cX10_hittingTime, 4, (some .long), [])
theorem mw_X10_hittingTime : MwV mX10_hittingTime 3 := ⟨⟨big_at 925 (by decide +kernel) rfl, big_at 46 (by decide +kernel) rfl, ⟨by decide +kernel, by decide +kernel⟩, by decide +kernel⟩, big_at 923 (by decide +kernel) rfl, big_at 924 (by decide +kernel) rfl⟩
abbrev mX10_gainSteps : Md := (yX10_gainSteps, cX10_gainSteps, 2, none, [])
theorem mw_X10_gainSteps : MwV mX10_gainSteps 0 := ⟨⟨big_at 929 (by decide +kernel) rfl, big_at 46 (by decide +kernel) rfl, ⟨by decide +kernel, by decide +kernel⟩, by decide +kernel⟩, big_at 928 (by decide +kernel) rfl, big_at 36 (by decide +kernel) rfl⟩
abbrev mL_divisor : Md := (yL_divisor, cL_divisor, 4, (some .long), [])
theorem mw_L_divisor : MwS mL_divisor 2 := ⟨⟨big_at 932 (by decide +kernel) rfl, big_at 45 (by decide +kernel) rfl, ⟨by decide +kernel, by decide +kernel⟩, by decide +kernel⟩, big_at 931 (by decide +kernel) rfl⟩
abbrev mL_isMean : Md := (yL_isMean, cL_isMean, 13, (some .boolean), [])
theorem mw_L_isMean : MwV mL_isMean 5 := ⟨⟨big_at 936 (by decide +kernel) rfl, big_at 45 (by decide +kernel) rfl, ⟨by decide +kernel, by decide +kernel⟩, by decide +kernel⟩, big_at 935 (by decide +kernel) rfl, big_at 37 (by decide +kernel) rfl⟩
abbrev mL_isAbsorbing : Md := (yL_isAbsorbing, cL_isAbsorbing, 2, (some .boolean), [])
theorem mw_L_isAbsorbing : MwV mL_isAbsorbing 1 := ⟨⟨big_at 940 (by decide +kernel) rfl, big_at 45 (by decide +kernel) rfl, ⟨by decide +kernel, by decide +kernel⟩, by decide +kernel⟩, big_at 939 (by decide +kernel) rfl, big_at 38 (by decide +kernel) rfl⟩
abbrev mL_areAbsorptions : Md := (yL_areAbsorptions, cL_areAbsorptions, 10, (some .boolean), [])
theorem mw_L_areAbsorptions : MwV mL_areAbsorptions 2 := ⟨⟨big_at 944 (by decide +kernel) rfl, big_at 45 (by decide +kernel) rfl, ⟨by decide +kernel, by decide +kernel⟩, by decide +kernel⟩, big_at 943 (by decide +kernel) rfl, big_at 39 (by decide +kernel) rfl⟩
abbrev mX10_absorption : Md := (yX10_absorption, cX10_absorption, 4, (some .long), [])
theorem mw_X10_absorption : MwV mX10_absorption 3 := ⟨⟨big_at 948 (by decide +kernel) rfl, big_at 46 (by decide +kernel) rfl, ⟨by decide +kernel, by decide +kernel⟩, by decide +kernel⟩, big_at 946 (by decide +kernel) rfl, big_at 947 (by decide +kernel) rfl⟩
abbrev mX10_requireAbsorbingWay : Md := (yX10_requireAbsorbingWay, cX10_requireAbsorbingWay, 2, none, [])
theorem mw_X10_requireAbsorbingWay : MwV mX10_requireAbsorbingWay 1 := ⟨⟨big_at 954 (by decide +kernel) rfl, big_at 46 (by decide +kernel) rfl, ⟨by decide +kernel, by decide +kernel⟩, by decide +kernel⟩, big_at 953 (by decide +kernel) rfl, big_at 40 (by decide +kernel) rfl⟩
abbrev mX10_findAbsorption : Md := (yX10_findAbsorption, cX10_findAbsorption, 4, none, [])
theorem mw_X10_findAbsorption : MwV mX10_findAbsorption 2 := ⟨⟨big_at 960 (by decide +kernel) rfl, big_at 46 (by decide +kernel) rfl, ⟨by decide +kernel, by decide +kernel⟩, by decide +kernel⟩, big_at 959 (by decide +kernel) rfl, big_at 41 (by decide +kernel) rfl⟩
abbrev mL_treesOf : Md := (yL_treesOf, cL_treesOf, 10, (some .long), [])
theorem mw_L_treesOf : MwV mL_treesOf 3 := ⟨⟨big_at 966 (by decide +kernel) rfl, big_at 45 (by decide +kernel) rfl, ⟨by decide +kernel, by decide +kernel⟩, by decide +kernel⟩, big_at 965 (by decide +kernel) rfl, big_at 42 (by decide +kernel) rfl⟩
abbrev mL_areWalks : Md := (yL_areWalks, cL_areWalks, 18, (some .boolean), [])
theorem mw_L_areWalks : MwV mL_areWalks 4 := ⟨⟨big_at 972 (by decide +kernel) rfl, big_at 45 (by decide +kernel) rfl, ⟨by decide +kernel, by decide +kernel⟩, by decide +kernel⟩, big_at 971 (by decide +kernel) rfl, big_at 43 (by decide +kernel) rfl⟩
abbrev mX10_walk : Md := (yX10_walk, cX10_walk, 5, (some .int), [])
theorem mw_X10_walk : MwV mX10_walk 4 := ⟨⟨big_at 979 (by decide +kernel) rfl, big_at 46 (by decide +kernel) rfl, ⟨by decide +kernel, by decide +kernel⟩, by decide +kernel⟩, big_at 977 (by decide +kernel) rfl, big_at 978 (by decide +kernel) rfl⟩
abbrev mX8_go : Md := (yX8_go, cX8_go, 8, none, [])
theorem mw_X8_go : MwV mX8_go 5 := ⟨⟨big_at 986 (by decide +kernel) rfl, big_at 55 (by decide +kernel) rfl, ⟨by decide +kernel, by decide +kernel⟩, by decide +kernel⟩, big_at 984 (by decide +kernel) rfl, big_at 985 (by decide +kernel) rfl⟩
abbrev mX8_drawStep : Md := (yX8_drawStep, cX8_drawStep, 8, (some .int), [])
theorem mw_X8_drawStep : MwV mX8_drawStep 1 := ⟨⟨big_at 991 (by decide +kernel) rfl, big_at 55 (by decide +kernel) rfl, ⟨by decide +kernel, by decide +kernel⟩, by decide +kernel⟩, big_at 990 (by decide +kernel) rfl, big_at 44 (by decide +kernel) rfl⟩
abbrev mX8_told : Md := (yX8_told, cX8_told, 2, (some .int), [])
theorem mw_X8_told : MwV mX8_told 1 := ⟨⟨big_at 1002 (by decide +kernel) rfl, big_at 55 (by decide +kernel) rfl, ⟨by decide +kernel, by decide +kernel⟩, by decide +kernel⟩, big_at 1000 (by decide +kernel) rfl, big_at 1001 (by decide +kernel) rfl⟩
abbrev mJ9_abs_0f7a4 : Md := (yJ9_abs_0f7a4, cJ9_abs_0f7a4, 1, (some .int), [])
theorem mw_J9_abs_0f7a4 : MwS mJ9_abs_0f7a4 1 := ⟨⟨big_at 1005 (by decide +kernel) rfl, big_at 62 (by decide +kernel) rfl, ⟨by decide +kernel, by decide +kernel⟩, by decide +kernel⟩, big_at 1004 (by decide +kernel) rfl⟩
abbrev mJ4_init_da8c8 : Md := (yJ4_init_da8c8, cJ4_init_da8c8, 1, none, [])
theorem mw_J4_init_da8c8 : MwI mJ4_init_da8c8 0 := ⟨⟨big_at 1012 (by decide +kernel) rfl, big_at 58 (by decide +kernel) rfl, ⟨by decide +kernel, by decide +kernel⟩, by decide +kernel⟩, rfl, big_at 1011 (by decide +kernel) rfl⟩
abbrev mJ5_init_d00df : Md := (yJ5_init_d00df, cJ5_init_d00df, 2, none, [])
theorem mw_J5_init_d00df : MwI mJ5_init_d00df 1 := ⟨⟨big_at 1015 (by decide +kernel) rfl, big_at 57 (by decide +kernel) rfl, ⟨by decide +kernel, by decide +kernel⟩, by decide +kernel⟩, rfl, big_at 1014 (by decide +kernel) rfl⟩
abbrev mJ2_newBytesFor_77867 : Md := (yJ2_newBytesFor_77867, cJ2_newBytesFor_77867, 1, (some (.array .byte)), [])
theorem mw_J2_newBytesFor_77867 : MwS mJ2_newBytesFor_77867 1 := ⟨⟨big_at 1020 (by decide +kernel) rfl, big_at 60 (by decide +kernel) rfl, ⟨by decide +kernel, by decide +kernel⟩, by decide +kernel⟩, big_at 1019 (by decide +kernel) rfl⟩
abbrev mJ2_newBytesLength_0f7a4 : Md := (yJ2_newBytesLength_0f7a4, cJ2_newBytesLength_0f7a4, 1, (some .int), [])
theorem mw_J2_newBytesLength_0f7a4 : MwS mJ2_newBytesLength_0f7a4 1 := ⟨⟨big_at 1023 (by decide +kernel) rfl, big_at 60 (by decide +kernel) rfl, ⟨by decide +kernel, by decide +kernel⟩, by decide +kernel⟩, big_at 1022 (by decide +kernel) rfl⟩
abbrev mJ4_init_a7421 : Md := (yJ4_init_a7421, cJ4_init_a7421, 2, none, [])
theorem mw_J4_init_a7421 : MwI mJ4_init_a7421 1 := ⟨⟨big_at 1040 (by decide +kernel) rfl, big_at 58 (by decide +kernel) rfl, ⟨by decide +kernel, by decide +kernel⟩, by decide +kernel⟩, rfl, big_at 1039 (by decide +kernel) rfl⟩
abbrev mJ5_init_a7421 : Md := (yJ5_init_a7421, cJ5_init_a7421, 5, none, [])
theorem mw_J5_init_a7421 : MwI mJ5_init_a7421 1 := ⟨⟨big_at 1043 (by decide +kernel) rfl, big_at 57 (by decide +kernel) rfl, ⟨by decide +kernel, by decide +kernel⟩, by decide +kernel⟩, rfl, big_at 1042 (by decide +kernel) rfl⟩
abbrev mJ4_append_cf1ce : Md := (yJ4_append_cf1ce, cJ4_append_cf1ce, 2, (some (.object "java/lang/AbstractStringBuilder")), [])
theorem mw_J4_append_cf1ce : MwB mJ4_append_cf1ce 1 := ⟨big_at 1053 (by decide +kernel) rfl, big_at 58 (by decide +kernel) rfl, ⟨by decide +kernel, by decide +kernel⟩, by decide +kernel⟩
theorem ii_J4_append_cf1ce : Cond.instanceMethod yJ4_append_cf1ce ∈ big := big_at 1052 (by decide +kernel) rfl
abbrev mJ4_append_15ec4 : Md := (yJ4_append_15ec4, cJ4_append_15ec4, 2, (some (.object "java/lang/StringBuilder")), [])
theorem mw_J4_append_15ec4 : MwV mJ4_append_15ec4 1 := ⟨⟨big_at 1057 (by decide +kernel) rfl, big_at 58 (by decide +kernel) rfl, ⟨by decide +kernel, by decide +kernel⟩, by decide +kernel⟩, big_at 1055 (by decide +kernel) rfl, big_at 1056 (by decide +kernel) rfl⟩
abbrev mJ5_append_cf1ce : Md := (yJ5_append_cf1ce, cJ5_append_cf1ce, 3, (some (.object "java/lang/AbstractStringBuilder")), [])
theorem mw_J5_append_cf1ce : MwB mJ5_append_cf1ce 1 := ⟨big_at 1059 (by decide +kernel) rfl, big_at 57 (by decide +kernel) rfl, ⟨by decide +kernel, by decide +kernel⟩, by decide +kernel⟩
theorem ii_J5_append_cf1ce : Cond.instanceMethod yJ5_append_cf1ce ∈ big := big_at 1049 (by decide +kernel) rfl
theorem sm_J5_append_cf1ce : Cond.sameMethod RJ5 RJ5 "append" "(Ljava/lang/String;)Ljava/lang/AbstractStringBuilder;" ∈ big := big_at 1050 (by decide +kernel) rfl
abbrev mJ5_appendNull_278bc : Md := (yJ5_appendNull_278bc, cJ5_appendNull_278bc, 3, (some (.object "java/lang/AbstractStringBuilder")), [])
theorem mw_J5_appendNull_278bc : MwB mJ5_appendNull_278bc 0 := ⟨big_at 1063 (by decide +kernel) rfl, big_at 57 (by decide +kernel) rfl, ⟨by decide +kernel, by decide +kernel⟩, by decide +kernel⟩
theorem ii_J5_appendNull_278bc : Cond.instanceMethod yJ5_appendNull_278bc ∈ big := big_at 1062 (by decide +kernel) rfl
theorem sm_J5_appendNull_278bc : Cond.sameMethod RJ5 RJ5 "appendNull" "()Ljava/lang/AbstractStringBuilder;" ∈ big := big_at 1246 (by decide +kernel) rfl
abbrev mJ5_ensureCapacityInternal_d00df : Md := (yJ5_ensureCapacityInternal_d00df, cJ5_ensureCapacityInternal_d00df, 3, none, [])
theorem mw_J5_ensureCapacityInternal_d00df : MwB mJ5_ensureCapacityInternal_d00df 1 := ⟨big_at 1067 (by decide +kernel) rfl, big_at 57 (by decide +kernel) rfl, ⟨by decide +kernel, by decide +kernel⟩, by decide +kernel⟩
theorem ii_J5_ensureCapacityInternal_d00df : Cond.instanceMethod yJ5_ensureCapacityInternal_d00df ∈ big := big_at 1066 (by decide +kernel) rfl
theorem sm_J5_ensureCapacityInternal_d00df : Cond.sameMethod RJ5 RJ5 "ensureCapacityInternal" "(I)V" ∈ big := big_at 1247 (by decide +kernel) rfl
abbrev mJ5_newCapacity_0f7a4 : Md := (yJ5_newCapacity_0f7a4, cJ5_newCapacity_0f7a4, 6, (some .int), [])
theorem mw_J5_newCapacity_0f7a4 : MwB mJ5_newCapacity_0f7a4 1 := ⟨big_at 1071 (by decide +kernel) rfl, big_at 57 (by decide +kernel) rfl, ⟨by decide +kernel, by decide +kernel⟩, by decide +kernel⟩
theorem ii_J5_newCapacity_0f7a4 : Cond.instanceMethod yJ5_newCapacity_0f7a4 ∈ big := big_at 1070 (by decide +kernel) rfl
theorem sm_J5_newCapacity_0f7a4 : Cond.sameMethod RJ5 RJ5 "newCapacity" "(I)I" ∈ big := big_at 1248 (by decide +kernel) rfl
abbrev mJ8_newLength_cabcc : Md := (yJ8_newLength_cabcc, cJ8_newLength_cabcc, 4, (some .int), [])
theorem mw_J8_newLength_cabcc : MwS mJ8_newLength_cabcc 3 := ⟨⟨big_at 1074 (by decide +kernel) rfl, big_at 61 (by decide +kernel) rfl, ⟨by decide +kernel, by decide +kernel⟩, by decide +kernel⟩, big_at 1073 (by decide +kernel) rfl⟩
abbrev mJ8_hugeLength_7cf53 : Md := (yJ8_hugeLength_7cf53, cJ8_hugeLength_7cf53, 3, (some .int), [])
theorem mw_J8_hugeLength_7cf53 : MwS mJ8_hugeLength_7cf53 2 := ⟨⟨big_at 1079 (by decide +kernel) rfl, big_at 61 (by decide +kernel) rfl, ⟨by decide +kernel, by decide +kernel⟩, by decide +kernel⟩, big_at 1078 (by decide +kernel) rfl⟩
abbrev mJ7_copyOf_9075b : Md := (yJ7_copyOf_9075b, cJ7_copyOf_9075b, 3, (some (.array .byte)), [])
theorem mw_J7_copyOf_9075b : MwS mJ7_copyOf_9075b 2 := ⟨⟨big_at 1082 (by decide +kernel) rfl, big_at 63 (by decide +kernel) rfl, ⟨by decide +kernel, by decide +kernel⟩, by decide +kernel⟩, big_at 1081 (by decide +kernel) rfl⟩
abbrev mJ5_isLatin1_aae02 : Md := (yJ5_isLatin1_aae02, cJ5_isLatin1_aae02, 1, (some .boolean), [])
theorem mw_J5_isLatin1_aae02 : MwB mJ5_isLatin1_aae02 0 := ⟨big_at 1092 (by decide +kernel) rfl, big_at 57 (by decide +kernel) rfl, ⟨by decide +kernel, by decide +kernel⟩, by decide +kernel⟩
theorem ii_J5_isLatin1_aae02 : Cond.instanceMethod yJ5_isLatin1_aae02 ∈ big := big_at 1089 (by decide +kernel) rfl
theorem sm_J5_isLatin1_aae02 : Cond.sameMethod RJ5 RJ5 "isLatin1" "()Z" ∈ big := big_at 1090 (by decide +kernel) rfl
abbrev mJ2_putCharsAt_cd4e5 : Md := (yJ2_putCharsAt_cd4e5, cJ2_putCharsAt_cd4e5, 7, (some .int), [])
theorem mw_J2_putCharsAt_cd4e5 : MwS mJ2_putCharsAt_cd4e5 6 := ⟨⟨big_at 1095 (by decide +kernel) rfl, big_at 60 (by decide +kernel) rfl, ⟨by decide +kernel, by decide +kernel⟩, by decide +kernel⟩, big_at 1094 (by decide +kernel) rfl⟩
abbrev mJ2_checkBoundsBeginEnd_d044e : Md := (yJ2_checkBoundsBeginEnd_d044e, cJ2_checkBoundsBeginEnd_d044e, 3, none, [])
theorem mw_J2_checkBoundsBeginEnd_d044e : MwS mJ2_checkBoundsBeginEnd_d044e 3 := ⟨⟨big_at 1098 (by decide +kernel) rfl, big_at 60 (by decide +kernel) rfl, ⟨by decide +kernel, by decide +kernel⟩, by decide +kernel⟩, big_at 1097 (by decide +kernel) rfl⟩
abbrev mJ0_checkBoundsBeginEnd_23922 : Md := (yJ0_checkBoundsBeginEnd_23922, cJ0_checkBoundsBeginEnd_23922, 3, none, [])
theorem mw_J0_checkBoundsBeginEnd_23922 : MwS mJ0_checkBoundsBeginEnd_23922 3 := ⟨⟨big_at 1101 (by decide +kernel) rfl, big_at 59 (by decide +kernel) rfl, ⟨by decide +kernel, by decide +kernel⟩, by decide +kernel⟩, big_at 1100 (by decide +kernel) rfl⟩
abbrev mJ3_checkFromToIndex_8c36e : Md := (yJ3_checkFromToIndex_8c36e, cJ3_checkFromToIndex_8c36e, 4, (some .int), [])
theorem mw_J3_checkFromToIndex_8c36e : MwS mJ3_checkFromToIndex_8c36e 4 := ⟨⟨big_at 1104 (by decide +kernel) rfl, big_at 65 (by decide +kernel) rfl, ⟨by decide +kernel, by decide +kernel⟩, by decide +kernel⟩, big_at 1103 (by decide +kernel) rfl⟩
abbrev mJ2_putChar_b72d1 : Md := (yJ2_putChar_b72d1, cJ2_putChar_b72d1, 3, none, [])
theorem mw_J2_putChar_b72d1 : MwS mJ2_putChar_b72d1 3 := ⟨⟨big_at 1107 (by decide +kernel) rfl, big_at 60 (by decide +kernel) rfl, ⟨by decide +kernel, by decide +kernel⟩, by decide +kernel⟩, big_at 1106 (by decide +kernel) rfl⟩
abbrev mJ5_putStringAt_47b60 : Md := (yJ5_putStringAt_47b60, cJ5_putStringAt_47b60, 3, none, [])
theorem mw_J5_putStringAt_47b60 : MwB mJ5_putStringAt_47b60 2 := ⟨big_at 1111 (by decide +kernel) rfl, big_at 57 (by decide +kernel) rfl, ⟨by decide +kernel, by decide +kernel⟩, by decide +kernel⟩
theorem ii_J5_putStringAt_47b60 : Cond.instanceMethod yJ5_putStringAt_47b60 ∈ big := big_at 1110 (by decide +kernel) rfl
theorem sm_J5_putStringAt_47b60 : Cond.sameMethod RJ5 RJ5 "putStringAt" "(ILjava/lang/String;)V" ∈ big := big_at 1249 (by decide +kernel) rfl
abbrev mJ5_inflateIfNeededFor_a7421 : Md := (yJ5_inflateIfNeededFor_a7421, cJ5_inflateIfNeededFor_a7421, 2, none, [])
theorem mw_J5_inflateIfNeededFor_a7421 : MwB mJ5_inflateIfNeededFor_a7421 1 := ⟨big_at 1115 (by decide +kernel) rfl, big_at 57 (by decide +kernel) rfl, ⟨by decide +kernel, by decide +kernel⟩, by decide +kernel⟩
theorem ii_J5_inflateIfNeededFor_a7421 : Cond.instanceMethod yJ5_inflateIfNeededFor_a7421 ∈ big := big_at 1114 (by decide +kernel) rfl
theorem sm_J5_inflateIfNeededFor_a7421 : Cond.sameMethod RJ5 RJ5 "inflateIfNeededFor" "(Ljava/lang/String;)V" ∈ big := big_at 1250 (by decide +kernel) rfl
abbrev mJ5_inflate_da8c8 : Md := (yJ5_inflate_da8c8, cJ5_inflate_da8c8, 2, none, [])
theorem mw_J5_inflate_da8c8 : MwB mJ5_inflate_da8c8 0 := ⟨big_at 1119 (by decide +kernel) rfl, big_at 57 (by decide +kernel) rfl, ⟨by decide +kernel, by decide +kernel⟩, by decide +kernel⟩
theorem ii_J5_inflate_da8c8 : Cond.instanceMethod yJ5_inflate_da8c8 ∈ big := big_at 1118 (by decide +kernel) rfl
theorem sm_J5_inflate_da8c8 : Cond.sameMethod RJ5 RJ5 "inflate" "()V" ∈ big := big_at 1251 (by decide +kernel) rfl
abbrev mJ1_inflate_0e8fd : Md := (yJ1_inflate_0e8fd, cJ1_inflate_0e8fd, 5, none, [])
theorem mw_J1_inflate_0e8fd : MwS mJ1_inflate_0e8fd 5 := ⟨⟨big_at 1122 (by decide +kernel) rfl, big_at 66 (by decide +kernel) rfl, ⟨by decide +kernel, by decide +kernel⟩, by decide +kernel⟩, big_at 1121 (by decide +kernel) rfl⟩
abbrev mJ2_inflate_0e8fd : Md := (yJ2_inflate_0e8fd, cJ2_inflate_0e8fd, 6, none, [])
theorem mw_J2_inflate_0e8fd : MwS mJ2_inflate_0e8fd 5 := ⟨⟨big_at 1125 (by decide +kernel) rfl, big_at 60 (by decide +kernel) rfl, ⟨by decide +kernel, by decide +kernel⟩, by decide +kernel⟩, big_at 1124 (by decide +kernel) rfl⟩
abbrev mJ2_checkBoundsOffCount_d044e : Md := (yJ2_checkBoundsOffCount_d044e, cJ2_checkBoundsOffCount_d044e, 3, none, [])
theorem mw_J2_checkBoundsOffCount_d044e : MwS mJ2_checkBoundsOffCount_d044e 3 := ⟨⟨big_at 1128 (by decide +kernel) rfl, big_at 60 (by decide +kernel) rfl, ⟨by decide +kernel, by decide +kernel⟩, by decide +kernel⟩, big_at 1127 (by decide +kernel) rfl⟩
abbrev mJ0_checkBoundsOffCount_cabcc : Md := (yJ0_checkBoundsOffCount_cabcc, cJ0_checkBoundsOffCount_cabcc, 3, (some .int), [])
theorem mw_J0_checkBoundsOffCount_cabcc : MwS mJ0_checkBoundsOffCount_cabcc 3 := ⟨⟨big_at 1131 (by decide +kernel) rfl, big_at 59 (by decide +kernel) rfl, ⟨by decide +kernel, by decide +kernel⟩, by decide +kernel⟩, big_at 1130 (by decide +kernel) rfl⟩
abbrev mJ3_checkFromIndexSize_8c36e : Md := (yJ3_checkFromIndexSize_8c36e, cJ3_checkFromIndexSize_8c36e, 4, (some .int), [])
theorem mw_J3_checkFromIndexSize_8c36e : MwS mJ3_checkFromIndexSize_8c36e 4 := ⟨⟨big_at 1134 (by decide +kernel) rfl, big_at 65 (by decide +kernel) rfl, ⟨by decide +kernel, by decide +kernel⟩, by decide +kernel⟩, big_at 1133 (by decide +kernel) rfl⟩
abbrev mJ0_getBytes_840e7 : Md := (yJ0_getBytes_840e7, cJ0_getBytes_840e7, 4, none, [])
theorem mw_J0_getBytes_840e7 : MwV mJ0_getBytes_840e7 3 := ⟨⟨big_at 1138 (by decide +kernel) rfl, big_at 59 (by decide +kernel) rfl, ⟨by decide +kernel, by decide +kernel⟩, by decide +kernel⟩, big_at 1136 (by decide +kernel) rfl, big_at 1137 (by decide +kernel) rfl⟩
abbrev mJ4_append_cf468 : Md := (yJ4_append_cf468, cJ4_append_cf468, 2, (some (.object "java/lang/StringBuilder")), [])
theorem mw_J4_append_cf468 : MwV mJ4_append_cf468 1 := ⟨⟨big_at 1145 (by decide +kernel) rfl, big_at 58 (by decide +kernel) rfl, ⟨by decide +kernel, by decide +kernel⟩, by decide +kernel⟩, big_at 1143 (by decide +kernel) rfl, big_at 1144 (by decide +kernel) rfl⟩
abbrev mJ5_append_3fe6f : Md := (yJ5_append_3fe6f, cJ5_append_3fe6f, 2, (some (.object "java/lang/AbstractStringBuilder")), [])
theorem mw_J5_append_3fe6f : MwB mJ5_append_3fe6f 1 := ⟨big_at 1148 (by decide +kernel) rfl, big_at 57 (by decide +kernel) rfl, ⟨by decide +kernel, by decide +kernel⟩, by decide +kernel⟩
theorem ii_J5_append_3fe6f : Cond.instanceMethod yJ5_append_3fe6f ∈ big := big_at 1147 (by decide +kernel) rfl
theorem sm_J5_append_3fe6f : Cond.sameMethod RJ5 RJ5 "append" "(C)Ljava/lang/AbstractStringBuilder;" ∈ big := big_at 1252 (by decide +kernel) rfl
abbrev mJ1_canEncode_fc78d : Md := (yJ1_canEncode_fc78d, cJ1_canEncode_fc78d, 1, (some .boolean), [])
theorem mw_J1_canEncode_fc78d : MwS mJ1_canEncode_fc78d 1 := ⟨⟨big_at 1151 (by decide +kernel) rfl, big_at 66 (by decide +kernel) rfl, ⟨by decide +kernel, by decide +kernel⟩, by decide +kernel⟩, big_at 1150 (by decide +kernel) rfl⟩
abbrev mJ2_putCharSB_b72d1 : Md := (yJ2_putCharSB_b72d1, cJ2_putCharSB_b72d1, 3, none, [])
theorem mw_J2_putCharSB_b72d1 : MwS mJ2_putCharSB_b72d1 3 := ⟨⟨big_at 1154 (by decide +kernel) rfl, big_at 60 (by decide +kernel) rfl, ⟨by decide +kernel, by decide +kernel⟩, by decide +kernel⟩, big_at 1153 (by decide +kernel) rfl⟩
abbrev mJ4_append_bf812 : Md := (yJ4_append_bf812, cJ4_append_bf812, 2, (some (.object "java/lang/StringBuilder")), [])
theorem mw_J4_append_bf812 : MwV mJ4_append_bf812 1 := ⟨⟨big_at 1158 (by decide +kernel) rfl, big_at 58 (by decide +kernel) rfl, ⟨by decide +kernel, by decide +kernel⟩, by decide +kernel⟩, big_at 1156 (by decide +kernel) rfl, big_at 1157 (by decide +kernel) rfl⟩
abbrev mJ5_append_c97b9 : Md := (yJ5_append_c97b9, cJ5_append_c97b9, 4, (some (.object "java/lang/AbstractStringBuilder")), [])
theorem mw_J5_append_c97b9 : MwB mJ5_append_c97b9 1 := ⟨big_at 1161 (by decide +kernel) rfl, big_at 57 (by decide +kernel) rfl, ⟨by decide +kernel, by decide +kernel⟩, by decide +kernel⟩
theorem ii_J5_append_c97b9 : Cond.instanceMethod yJ5_append_c97b9 ∈ big := big_at 1160 (by decide +kernel) rfl
theorem sm_J5_append_c97b9 : Cond.sameMethod RJ5 RJ5 "append" "(I)Ljava/lang/AbstractStringBuilder;" ∈ big := big_at 1253 (by decide +kernel) rfl
abbrev mJ6_stringSize_0f7a4 : Md := (yJ6_stringSize_0f7a4, cJ6_stringSize_0f7a4, 4, (some .int), [])
theorem mw_J6_stringSize_0f7a4 : MwS mJ6_stringSize_0f7a4 1 := ⟨⟨big_at 1164 (by decide +kernel) rfl, big_at 68 (by decide +kernel) rfl, ⟨by decide +kernel, by decide +kernel⟩, by decide +kernel⟩, big_at 1163 (by decide +kernel) rfl⟩
abbrev mJ6_getChars_ba4f3 : Md := (yJ6_getChars_ba4f3, cJ6_getChars_ba4f3, 7, (some .int), [])
theorem mw_J6_getChars_ba4f3 : MwS mJ6_getChars_ba4f3 3 := ⟨⟨big_at 1167 (by decide +kernel) rfl, big_at 68 (by decide +kernel) rfl, ⟨by decide +kernel, by decide +kernel⟩, by decide +kernel⟩, big_at 1166 (by decide +kernel) rfl⟩
abbrev mJ2_getChars_46870 : Md := (yJ2_getChars_46870, cJ2_getChars_46870, 5, (some .int), [])
theorem mw_J2_getChars_46870 : MwS mJ2_getChars_46870 4 := ⟨⟨big_at 1174 (by decide +kernel) rfl, big_at 60 (by decide +kernel) rfl, ⟨by decide +kernel, by decide +kernel⟩, by decide +kernel⟩, big_at 1173 (by decide +kernel) rfl⟩
abbrev mJ2_getChars_ba4f3 : Md := (yJ2_getChars_ba4f3, cJ2_getChars_ba4f3, 7, (some .int), [])
theorem mw_J2_getChars_ba4f3 : MwS mJ2_getChars_ba4f3 3 := ⟨⟨big_at 1177 (by decide +kernel) rfl, big_at 60 (by decide +kernel) rfl, ⟨by decide +kernel, by decide +kernel⟩, by decide +kernel⟩, big_at 1176 (by decide +kernel) rfl⟩
abbrev mJ4_toString_0e30d : Md := (yJ4_toString_0e30d, cJ4_toString_0e30d, 1, (some (.object "java/lang/String")), [])
theorem mw_J4_toString_0e30d : MwV mJ4_toString_0e30d 0 := ⟨⟨big_at 1183 (by decide +kernel) rfl, big_at 58 (by decide +kernel) rfl, ⟨by decide +kernel, by decide +kernel⟩, by decide +kernel⟩, big_at 1181 (by decide +kernel) rfl, big_at 1182 (by decide +kernel) rfl⟩
abbrev mJ0_init_81219 : Md := (yJ0_init_81219, cJ0_init_81219, 2, none, [])
theorem mw_J0_init_81219 : MwI mJ0_init_81219 1 := ⟨⟨big_at 1188 (by decide +kernel) rfl, big_at 59 (by decide +kernel) rfl, ⟨by decide +kernel, by decide +kernel⟩, by decide +kernel⟩, rfl, big_at 1187 (by decide +kernel) rfl⟩
abbrev mJ0_init_db425 : Md := (yJ0_init_db425, cJ0_init_db425, 5, none, [])
theorem mw_J0_init_db425 : MwI mJ0_init_db425 2 := ⟨⟨big_at 1191 (by decide +kernel) rfl, big_at 59 (by decide +kernel) rfl, ⟨by decide +kernel, by decide +kernel⟩, by decide +kernel⟩, rfl, big_at 1190 (by decide +kernel) rfl⟩
abbrev mJ5_getValue_6d5f1 : Md := (yJ5_getValue_6d5f1, cJ5_getValue_6d5f1, 1, (some (.array .byte)), [])
theorem mw_J5_getValue_6d5f1 : MwB mJ5_getValue_6d5f1 0 := ⟨big_at 1197 (by decide +kernel) rfl, big_at 57 (by decide +kernel) rfl, ⟨by decide +kernel, by decide +kernel⟩, by decide +kernel⟩
theorem ii_J5_getValue_6d5f1 : Cond.instanceMethod yJ5_getValue_6d5f1 ∈ big := big_at 1194 (by decide +kernel) rfl
theorem sm_J5_getValue_6d5f1 : Cond.sameMethod RJ5 RJ5 "getValue" "()[B" ∈ big := big_at 1195 (by decide +kernel) rfl
abbrev mJ4_length_8abf5 : Md := (yJ4_length_8abf5, cJ4_length_8abf5, 1, (some .int), [])
theorem mw_J4_length_8abf5 : MwB mJ4_length_8abf5 0 := ⟨big_at 1203 (by decide +kernel) rfl, big_at 58 (by decide +kernel) rfl, ⟨by decide +kernel, by decide +kernel⟩, by decide +kernel⟩
theorem ii_J4_length_8abf5 : Cond.instanceMethod yJ4_length_8abf5 ∈ big := big_at 1202 (by decide +kernel) rfl
abbrev mJ5_length_8abf5 : Md := (yJ5_length_8abf5, cJ5_length_8abf5, 1, (some .int), [])
theorem mw_J5_length_8abf5 : MwB mJ5_length_8abf5 0 := ⟨big_at 1205 (by decide +kernel) rfl, big_at 57 (by decide +kernel) rfl, ⟨by decide +kernel, by decide +kernel⟩, by decide +kernel⟩
theorem ii_J5_length_8abf5 : Cond.instanceMethod yJ5_length_8abf5 ∈ big := big_at 1199 (by decide +kernel) rfl
theorem sm_J5_length_8abf5 : Cond.sameMethod RJ5 RJ5 "length" "()I" ∈ big := big_at 1200 (by decide +kernel) rfl
abbrev mJ7_copyOfRange_39247 : Md := (yJ7_copyOfRange_39247, cJ7_copyOfRange_39247, 3, (some (.array .byte)), [])
theorem mw_J7_copyOfRange_39247 : MwS mJ7_copyOfRange_39247 3 := ⟨⟨big_at 1209 (by decide +kernel) rfl, big_at 63 (by decide +kernel) rfl, ⟨by decide +kernel, by decide +kernel⟩, by decide +kernel⟩, big_at 1208 (by decide +kernel) rfl⟩
abbrev mJ7_copyOfRangeByte_39247 : Md := (yJ7_copyOfRangeByte_39247, cJ7_copyOfRangeByte_39247, 5, (some (.array .byte)), [])
theorem mw_J7_copyOfRangeByte_39247 : MwS mJ7_copyOfRangeByte_39247 3 := ⟨⟨big_at 1212 (by decide +kernel) rfl, big_at 63 (by decide +kernel) rfl, ⟨by decide +kernel, by decide +kernel⟩, by decide +kernel⟩, big_at 1211 (by decide +kernel) rfl⟩
abbrev mJ7_checkLength_df160 : Md := (yJ7_checkLength_df160, cJ7_checkLength_df160, 2, none, [])
theorem mw_J7_checkLength_df160 : MwS mJ7_checkLength_df160 2 := ⟨⟨big_at 1215 (by decide +kernel) rfl, big_at 63 (by decide +kernel) rfl, ⟨by decide +kernel, by decide +kernel⟩, by decide +kernel⟩, big_at 1214 (by decide +kernel) rfl⟩
abbrev mJ2_compress_39247 : Md := (yJ2_compress_39247, cJ2_compress_39247, 6, (some (.array .byte)), [])
theorem mw_J2_compress_39247 : MwS mJ2_compress_39247 3 := ⟨⟨big_at 1218 (by decide +kernel) rfl, big_at 60 (by decide +kernel) rfl, ⟨by decide +kernel, by decide +kernel⟩, by decide +kernel⟩, big_at 1217 (by decide +kernel) rfl⟩
abbrev mJ2_compress_5af95 : Md := (yJ2_compress_5af95, cJ2_compress_5af95, 7, (some .int), [])
theorem mw_J2_compress_5af95 : MwS mJ2_compress_5af95 5 := ⟨⟨big_at 1221 (by decide +kernel) rfl, big_at 60 (by decide +kernel) rfl, ⟨by decide +kernel, by decide +kernel⟩, by decide +kernel⟩, big_at 1220 (by decide +kernel) rfl⟩
abbrev mJ2_coderFromArrayLen_85cad : Md := (yJ2_coderFromArrayLen_85cad, cJ2_coderFromArrayLen_85cad, 2, (some .byte), [])
theorem mw_J2_coderFromArrayLen_85cad : MwS mJ2_coderFromArrayLen_85cad 2 := ⟨⟨big_at 1225 (by decide +kernel) rfl, big_at 60 (by decide +kernel) rfl, ⟨by decide +kernel, by decide +kernel⟩, by decide +kernel⟩, big_at 1224 (by decide +kernel) rfl⟩
theorem se_J5_append_cf1ce : Cond.selects RJ4 yJ5_append_cf1ce yJ4_append_cf1ce ∈ big := big_at 1051 (by decide +kernel) rfl
theorem se_J4_append_15ec4 : Cond.selects RJ4 yJ4_append_15ec4 yJ4_append_15ec4 ∈ big := big_at 1056 (by decide +kernel) rfl
theorem se_J5_isLatin1_aae02 : Cond.selects RJ4 yJ5_isLatin1_aae02 yJ5_isLatin1_aae02 ∈ big := big_at 1091 (by decide +kernel) rfl
theorem se_J4_append_cf468 : Cond.selects RJ4 yJ4_append_cf468 yJ4_append_cf468 ∈ big := big_at 1144 (by decide +kernel) rfl
theorem se_J4_append_bf812 : Cond.selects RJ4 yJ4_append_bf812 yJ4_append_bf812 ∈ big := big_at 1157 (by decide +kernel) rfl
theorem se_J4_toString_0e30d : Cond.selects RJ4 yJ4_toString_0e30d yJ4_toString_0e30d ∈ big := big_at 1182 (by decide +kernel) rfl
theorem se_J5_getValue_6d5f1 : Cond.selects RJ4 yJ5_getValue_6d5f1 yJ5_getValue_6d5f1 ∈ big := big_at 1196 (by decide +kernel) rfl
theorem se_J5_length_8abf5 : Cond.selects RJ4 yJ5_length_8abf5 yJ4_length_8abf5 ∈ big := big_at 1201 (by decide +kernel) rfl
theorem se_J5_ensureCapacityInternal_d00df : Cond.selects RJ4 yJ5_ensureCapacityInternal_d00df yJ5_ensureCapacityInternal_d00df ∈ big := big_at 1254 (by decide +kernel) rfl
theorem se_J5_newCapacity_0f7a4 : Cond.selects RJ4 yJ5_newCapacity_0f7a4 yJ5_newCapacity_0f7a4 ∈ big := big_at 1255 (by decide +kernel) rfl
theorem se_J5_putStringAt_47b60 : Cond.selects RJ4 yJ5_putStringAt_47b60 yJ5_putStringAt_47b60 ∈ big := big_at 1256 (by decide +kernel) rfl
theorem se_J5_inflateIfNeededFor_a7421 : Cond.selects RJ4 yJ5_inflateIfNeededFor_a7421 yJ5_inflateIfNeededFor_a7421 ∈ big := big_at 1257 (by decide +kernel) rfl
theorem cl_I_same : Cond.sameMethod "[I" "java/lang/Object" "clone" "()Ljava/lang/Object;" ∈ big := big_at 806 (by decide +kernel) rfl
theorem cl_I_sel : Cond.selects "[I" ⟨"[I", "clone", "()Ljava/lang/Object;"⟩ ⟨"java/lang/Object", "clone", "()Ljava/lang/Object;"⟩ ∈ big := big_at 809 (by decide +kernel) rfl
theorem cl_I_cast : Cond.castable "[I" "java/lang/Cloneable" ∈ lw_tbl := List.mem_of_getElem? (i := 810) (by decide +kernel)
theorem cl_B_same : Cond.sameMethod "[B" "java/lang/Object" "clone" "()Ljava/lang/Object;" ∈ big := big_at 1084 (by decide +kernel) rfl
theorem cl_B_sel : Cond.selects "[B" ⟨"[B", "clone", "()Ljava/lang/Object;"⟩ ⟨"java/lang/Object", "clone", "()Ljava/lang/Object;"⟩ ∈ big := big_at 1085 (by decide +kernel) rfl
theorem cl_B_cast : Cond.castable "[B" "java/lang/Cloneable" ∈ lw_tbl := List.mem_of_getElem? (i := 1086) (by decide +kernel)
theorem cl_nat : Cond.native ⟨"java/lang/Object", "clone", "()Ljava/lang/Object;"⟩ ∈ big := big_at 807 (by decide +kernel) rfl
theorem cl_inst : Cond.instanceMethod ⟨"java/lang/Object", "clone", "()Ljava/lang/Object;"⟩ ∈ big := big_at 808 (by decide +kernel) rfl
end
section
/-! ===== the methods decoded (written by wip/p37/gen_words.py) ===== -/
def Tb (cc : ByteArray) (l : List (Nat × Instr × Nat)) : Prop := ∀ (i : Nat) (q : Nat × Instr × Nat), l[i]? = some q → decode cc q.1 = .ok q.2
theorem Tb.of {cc : ByteArray} {l : List (Nat × Instr × Nat)} (h : ∀ q ∈ l, decode cc q.1 = .ok q.2) : Tb cc l := fun _ q hq => h q (List.mem_of_getElem? hq)
theorem Tb.at {cc : ByteArray} {l : List (Nat × Instr × Nat)} (h : Tb cc l) (i : Nat) {pc len : Nat} {ins : Instr} (e : l[i]? = some (pc, ins, len)) : decode cc pc = .ok (ins, len) := by
  have h1 := h i (pc, ins, len) e
  exact h1

def lX0_init : List (Nat × Instr × Nat) := [(0, .aload_n 0, 1), (1, .invokespecial 3, 3), (4, .aload_n 0, 1), (5, .bipush 16, 2), (7, .newarray .int, 2), (9, .putfield 9, 3), (12, .aload_n 0, 1), (13, .bipush 36, 2), (15, .newarray .int, 2), (17, .putfield 15, 3), (20, .return_, 1)]
theorem tX0_init : Tb mX0_init.2.1 lX0_init := Tb.of (by decide +kernel)
def lX0_costOfStep : List (Nat × Instr × Nat) := [(0, .aload_n 0, 1), (1, .aload_n 1, 1), (2, .getfield 18, 3), (5, .aload_n 1, 1), (6, .iload_n 2, 1), (7, .iload_n 3, 1), (8, .invokevirtual 23, 3), (11, .iload_n 2, 1), (12, .iload_n 3, 1), (13, .invokevirtual 27, 3), (16, .istore 4, 2), (18, .iconst 0, 1), (19, .bipush 99, 2), (21, .iload 4, 2), (23, .invokestatic 31, 3), (26, .invokestatic 36, 3), (29, .ireturn, 1)]
theorem tX0_costOfStep : Tb mX0_costOfStep.2.1 lX0_costOfStep := Tb.of (by decide +kernel)
def lX0_fillTable : List (Nat × Instr × Nat) := [(0, .aload_n 0, 1), (1, .getfield 15, 3), (4, .iconst 0, 1), (5, .invokestatic 39, 3), (8, .iconst 0, 1), (9, .istore_n 2, 1), (10, .iload_n 2, 1), (11, .aload_n 1, 1), (12, .getfield 45, 3), (15, .if_icmp .ge 64, 3), (18, .aload_n 1, 1), (19, .getfield 49, 3), (22, .iload_n 2, 1), (23, .iaload, 1), (24, .istore_n 3, 1), (25, .aload_n 1, 1), (26, .getfield 52, 3), (29, .iload_n 2, 1), (30, .iaload, 1), (31, .istore 4, 2), (33, .aload_n 0, 1), (34, .getfield 15, 3), (37, .iload_n 3, 1), (38, .bipush 6, 2), (40, .imul, 1), (41, .iload 4, 2), (43, .iadd, 1), (44, .aload_n 0, 1), (45, .aload_n 1, 1), (46, .iload_n 3, 1), (47, .iload 4, 2), (49, .invokevirtual 55, 3), (52, .iastore, 1), (53, .aload_n 0, 1), (54, .getfield 15, 3), (57, .iload 4, 2), (59, .bipush 6, 2), (61, .imul, 1), (62, .iload_n 3, 1), (63, .iadd, 1), (64, .aload_n 0, 1), (65, .aload_n 1, 1), (66, .iload 4, 2), (68, .iload_n 3, 1), (69, .invokevirtual 55, 3), (72, .iastore, 1), (73, .iinc 2 1, 3), (76, .goto (-66), 3), (79, .return_, 1)]
theorem tX0_fillTable : Tb mX0_fillTable.2.1 lX0_fillTable := Tb.of (by decide +kernel)
def lX0_tabled : List (Nat × Instr × Nat) := [(0, .aload_n 0, 1), (1, .getfield 15, 3), (4, .iload_n 1, 1), (5, .bipush 6, 2), (7, .imul, 1), (8, .iload_n 2, 1), (9, .iadd, 1), (10, .iaload, 1), (11, .ireturn, 1)]
theorem tX0_tabled : Tb mX0_tabled.2.1 lX0_tabled := Tb.of (by decide +kernel)
def lX0_evaluate : List (Nat × Instr × Nat) := [(0, .iconst 0, 1), (1, .istore 5, 2), (3, .iconst 0, 1), (4, .istore 6, 2), (6, .iload 6, 2), (8, .aload_n 1, 1), (9, .arraylength, 1), (10, .if_icmp .ge 95, 3), (13, .aload_n 1, 1), (14, .iload 6, 2), (16, .iaload, 1), (17, .istore 7, 2), (19, .iload 7, 2), (21, .bipush (-4), 2), (23, .if_icmp .le 35, 3), (26, .iload 5, 2), (28, .aload_n 0, 1), (29, .getfield 9, 3), (32, .arraylength, 1), (33, .if_icmp .ge 66, 3), (36, .aload_n 0, 1), (37, .getfield 9, 3), (40, .iload 5, 2), (42, .iload 7, 2), (44, .iload_n 2, 1), (45, .iload_n 3, 1), (46, .iload 4, 2), (48, .invokestatic 59, 3), (51, .iastore, 1), (52, .iinc 5 1, 3), (55, .goto 44, 3), (58, .iload 5, 2), (60, .iconst 2, 1), (61, .if_icmp .lt 38, 3), (64, .iinc 5 (-1), 3), (67, .aload_n 0, 1), (68, .getfield 9, 3), (71, .iload 5, 2), (73, .iconst 1, 1), (74, .isub, 1), (75, .iload 7, 2), (77, .aload_n 0, 1), (78, .getfield 9, 3), (81, .iload 5, 2), (83, .iconst 1, 1), (84, .isub, 1), (85, .iaload, 1), (86, .i2l, 1), (87, .aload_n 0, 1), (88, .getfield 9, 3), (91, .iload 5, 2), (93, .iaload, 1), (94, .i2l, 1), (95, .invokestatic 63, 3), (98, .iastore, 1), (99, .iinc 6 1, 3), (102, .goto (-96), 3), (105, .iload 5, 2), (107, .ifCond .le 12, 3), (110, .aload_n 0, 1), (111, .getfield 9, 3), (114, .iconst 0, 1), (115, .iaload, 1), (116, .goto 4, 3), (119, .iconst 0, 1), (120, .ireturn, 1)]
theorem tX0_evaluate : Tb mX0_evaluate.2.1 lX0_evaluate := Tb.of (by decide +kernel)
def lX0_operand : List (Nat × Instr × Nat) := [(0, .iload_n 0, 1), (1, .tableswitch 33 (-3) (-1) #[31, 29, 27], 27), (28, .iload_n 1, 1), (29, .ireturn, 1), (30, .iload_n 2, 1), (31, .ireturn, 1), (32, .iload_n 3, 1), (33, .ireturn, 1), (34, .iload_n 0, 1), (35, .ireturn, 1)]
theorem tX0_operand : Tb mX0_operand.2.1 lX0_operand := Tb.of (by decide +kernel)
def lX0_operate : List (Nat × Instr × Nat) := [(0, .iload_n 0, 1), (1, .bipush (-4), 2), (3, .if_icmp .ne 11, 3), (6, .lload_n 1, 1), (7, .lload_n 3, 1), (8, .ladd, 1), (9, .lstore 5, 2), (11, .goto 46, 3), (14, .iload_n 0, 1), (15, .bipush (-5), 2), (17, .if_icmp .ne 11, 3), (20, .lload_n 1, 1), (21, .lload_n 3, 1), (22, .lsub, 1), (23, .lstore 5, 2), (25, .goto 32, 3), (28, .iload_n 0, 1), (29, .bipush (-6), 2), (31, .if_icmp .ne 11, 3), (34, .lload_n 1, 1), (35, .lload_n 3, 1), (36, .lmul, 1), (37, .lstore 5, 2), (39, .goto 18, 3), (42, .lload_n 3, 1), (43, .lconst 0, 1), (44, .lcmp, 1), (45, .ifCond .ne 7, 3), (48, .lconst 0, 1), (49, .goto 6, 3), (52, .lload_n 1, 1), (53, .lload_n 3, 1), (54, .ldiv, 1), (55, .lstore 5, 2), (57, .ldc2_w 67, 3), (60, .ldc2_w 69, 3), (63, .lload 5, 2), (65, .invokestatic 71, 3), (68, .invokestatic 74, 3), (71, .l2i, 1), (72, .ireturn, 1)]
theorem tX0_operate : Tb mX0_operate.2.1 lX0_operate := Tb.of (by decide +kernel)
def lX1_init : List (Nat × Instr × Nat) := [(0, .aload_n 0, 1), (1, .invokespecial 3, 3), (4, .aload_n 0, 1), (5, .bipush 42, 2), (7, .newarray .long, 2), (9, .putfield 11, 3), (12, .aload_n 0, 1), (13, .bipush 6, 2), (15, .newarray .int, 2), (17, .putfield 15, 3), (20, .aload_n 0, 1), (21, .bipush 6, 2), (23, .newarray .long, 2), (25, .putfield 19, 3), (28, .aload_n 0, 1), (29, .iconst 0, 1), (30, .putfield 22, 3), (33, .return_, 1)]
theorem tX1_init : Tb mX1_init.2.1 lX1_init := Tb.of (by decide +kernel)
def lX1_meanUntil : List (Nat × Instr × Nat) := [(0, .iload_n 2, 1), (1, .iload_n 3, 1), (2, .if_icmp .ne 13, 3), (5, .aload 5, 2), (7, .lconst 0, 1), (8, .lconst 1, 1), (9, .invokevirtual 26, 3), (12, .goto 24, 3), (15, .aload_n 0, 1), (16, .aload_n 1, 1), (17, .aload_n 1, 1), (18, .iload_n 2, 1), (19, .invokevirtual 32, 3), (22, .iconst 1, 1), (23, .iload_n 3, 1), (24, .ishl, 1), (25, .iconst (-1), 1), (26, .ixor, 1), (27, .iand, 1), (28, .iload_n 2, 1), (29, .aload 4, 2), (31, .aload 5, 2), (33, .invokevirtual 38, 3), (36, .return_, 1)]
theorem tX1_meanUntil : Tb mX1_meanUntil.2.1 lX1_meanUntil := Tb.of (by decide +kernel)
def lX1_solve : List (Nat × Instr × Nat) := [(0, .aload_n 0, 1), (1, .aload_n 1, 1), (2, .iload_n 2, 1), (3, .iload_n 3, 1), (4, .aload 4, 2), (6, .invokevirtual 42, 3), (9, .aload_n 0, 1), (10, .invokevirtual 46, 3), (13, .ifCond .eq 41, 3), (16, .aload 5, 2), (18, .aload_n 0, 1), (19, .aload_n 0, 1), (20, .getfield 22, 3), (23, .iconst 1, 1), (24, .isub, 1), (25, .aload_n 0, 1), (26, .getfield 22, 3), (29, .invokevirtual 50, 3), (32, .aload_n 0, 1), (33, .aload_n 0, 1), (34, .getfield 22, 3), (37, .iconst 1, 1), (38, .isub, 1), (39, .aload_n 0, 1), (40, .getfield 22, 3), (43, .iconst 1, 1), (44, .isub, 1), (45, .invokevirtual 50, 3), (48, .invokevirtual 26, 3), (51, .goto 10, 3), (54, .aload 5, 2), (56, .lconst 0, 1), (57, .lconst 1, 1), (58, .invokevirtual 26, 3), (61, .return_, 1)]
theorem tX1_solve : Tb mX1_solve.2.1 lX1_solve := Tb.of (by decide +kernel)
def lX1_treesOf : List (Nat × Instr × Nat) := [(0, .iconst 1, 1), (1, .aload_n 1, 1), (2, .getfield 54, 3), (5, .ishl, 1), (6, .iconst 1, 1), (7, .isub, 1), (8, .istore_n 2, 1), (9, .aload_n 0, 1), (10, .aload_n 1, 1), (11, .iload_n 2, 1), (12, .bipush (-2), 2), (14, .iand, 1), (15, .iconst 1, 1), (16, .aload_n 0, 1), (17, .getfield 19, 3), (20, .invokevirtual 42, 3), (23, .aload_n 0, 1), (24, .invokevirtual 46, 3), (27, .ifCond .eq 22, 3), (30, .aload_n 0, 1), (31, .aload_n 0, 1), (32, .getfield 22, 3), (35, .iconst 1, 1), (36, .isub, 1), (37, .aload_n 0, 1), (38, .getfield 22, 3), (41, .iconst 1, 1), (42, .isub, 1), (43, .invokevirtual 50, 3), (46, .goto 4, 3), (49, .lconst 0, 1), (50, .lreturn, 1)]
theorem tX1_treesOf : Tb mX1_treesOf.2.1 lX1_treesOf := Tb.of (by decide +kernel)
def lX1_build : List (Nat × Instr × Nat) := [(0, .aload_n 0, 1), (1, .iconst 0, 1), (2, .putfield 22, 3), (5, .iconst 0, 1), (6, .istore 5, 2), (8, .iload 5, 2), (10, .aload_n 1, 1), (11, .getfield 54, 3), (14, .if_icmp .ge 45, 3), (17, .iload 5, 2), (19, .iload_n 3, 1), (20, .if_icmp .eq 33, 3), (23, .iload_n 2, 1), (24, .iload 5, 2), (26, .ishr, 1), (27, .iconst 1, 1), (28, .iand, 1), (29, .ifCond .eq 24, 3), (32, .aload_n 0, 1), (33, .getfield 15, 3), (36, .aload_n 0, 1), (37, .getfield 22, 3), (40, .iload 5, 2), (42, .iastore, 1), (43, .aload_n 0, 1), (44, .dup, 1), (45, .getfield 22, 3), (48, .iconst 1, 1), (49, .iadd, 1), (50, .putfield 22, 3), (53, .iinc 5 1, 3), (56, .goto (-48), 3), (59, .aload_n 0, 1), (60, .getfield 22, 3), (63, .bipush 6, 2), (65, .if_icmp .ge 23, 3), (68, .aload_n 0, 1), (69, .getfield 15, 3), (72, .aload_n 0, 1), (73, .getfield 22, 3), (76, .iload_n 3, 1), (77, .iastore, 1), (78, .aload_n 0, 1), (79, .dup, 1), (80, .getfield 22, 3), (83, .iconst 1, 1), (84, .iadd, 1), (85, .putfield 22, 3), (88, .iconst 0, 1), (89, .istore 5, 2), (91, .iload 5, 2), (93, .aload_n 0, 1), (94, .getfield 22, 3), (97, .if_icmp .ge 91, 3), (100, .aload_n 0, 1), (101, .getfield 15, 3), (104, .iload 5, 2), (106, .iaload, 1), (107, .istore 6, 2), (109, .iconst 0, 1), (110, .istore 7, 2), (112, .iload 7, 2), (114, .aload_n 0, 1), (115, .getfield 22, 3), (118, .if_icmp .ge 49, 3), (121, .aload_n 0, 1), (122, .iload 5, 2), (124, .iload 7, 2), (126, .iload 5, 2), (128, .iload 7, 2), (130, .if_icmp .ne 13, 3), (133, .aload_n 1, 1), (134, .iload 6, 2), (136, .invokevirtual 57, 3), (139, .i2l, 1), (140, .goto 18, 3), (143, .aload_n 1, 1), (144, .iload 6, 2), (146, .aload_n 0, 1), (147, .getfield 15, 3), (150, .iload 7, 2), (152, .iaload, 1), (153, .invokevirtual 60, 3), (156, .ineg, 1), (157, .i2l, 1), (158, .invokevirtual 64, 3), (161, .iinc 7 1, 3), (164, .goto (-52), 3), (167, .aload_n 0, 1), (168, .iload 5, 2), (170, .aload_n 0, 1), (171, .getfield 22, 3), (174, .aload 4, 2), (176, .iload 6, 2), (178, .laload, 1), (179, .invokevirtual 64, 3), (182, .iinc 5 1, 3), (185, .goto (-94), 3), (188, .return_, 1)]
theorem tX1_build : Tb mX1_build.2.1 lX1_build := Tb.of (by decide +kernel)
def lX1_eliminate : List (Nat × Instr × Nat) := [(0, .lconst 1, 1), (1, .lstore_n 1, 1), (2, .iconst 0, 1), (3, .istore_n 3, 1), (4, .iload_n 3, 1), (5, .aload_n 0, 1), (6, .getfield 22, 3), (9, .if_icmp .ge 116, 3), (12, .aload_n 0, 1), (13, .iload_n 3, 1), (14, .iload_n 3, 1), (15, .invokevirtual 50, 3), (18, .lstore 4, 2), (20, .lload 4, 2), (22, .lconst 0, 1), (23, .lcmp, 1), (24, .ifCond .eq 9, 3), (27, .lload_n 1, 1), (28, .lconst 0, 1), (29, .lcmp, 1), (30, .ifCond .ne 5, 3), (33, .iconst 0, 1), (34, .ireturn, 1), (35, .iload_n 3, 1), (36, .iconst 1, 1), (37, .iadd, 1), (38, .istore 6, 2), (40, .iload 6, 2), (42, .aload_n 0, 1), (43, .getfield 22, 3), (46, .if_icmp .ge 70, 3), (49, .aload_n 0, 1), (50, .iload 6, 2), (52, .iload_n 3, 1), (53, .invokevirtual 50, 3), (56, .lstore 7, 2), (58, .iload_n 3, 1), (59, .iconst 1, 1), (60, .iadd, 1), (61, .istore 9, 2), (63, .iload 9, 2), (65, .aload_n 0, 1), (66, .getfield 22, 3), (69, .if_icmp .gt 41, 3), (72, .aload_n 0, 1), (73, .iload 6, 2), (75, .iload 9, 2), (77, .aload_n 0, 1), (78, .iload 6, 2), (80, .iload 9, 2), (82, .invokevirtual 50, 3), (85, .lload 4, 2), (87, .lmul, 1), (88, .lload 7, 2), (90, .aload_n 0, 1), (91, .iload_n 3, 1), (92, .iload 9, 2), (94, .invokevirtual 50, 3), (97, .lmul, 1), (98, .lsub, 1), (99, .lload_n 1, 1), (100, .ldiv, 1), (101, .invokevirtual 64, 3), (104, .iinc 9 1, 3), (107, .goto (-44), 3), (110, .iinc 6 1, 3), (113, .goto (-73), 3), (116, .lload 4, 2), (118, .lstore_n 1, 1), (119, .iinc 3 1, 3), (122, .goto (-118), 3), (125, .iconst 1, 1), (126, .ireturn, 1)]
theorem tX1_eliminate : Tb mX1_eliminate.2.1 lX1_eliminate := Tb.of (by decide +kernel)
def lX1_cell : List (Nat × Instr × Nat) := [(0, .aload_n 0, 1), (1, .getfield 11, 3), (4, .iload_n 1, 1), (5, .bipush 7, 2), (7, .imul, 1), (8, .iload_n 2, 1), (9, .iadd, 1), (10, .laload, 1), (11, .lreturn, 1)]
theorem tX1_cell : Tb mX1_cell.2.1 lX1_cell := Tb.of (by decide +kernel)
def lX1_putCell : List (Nat × Instr × Nat) := [(0, .aload_n 0, 1), (1, .getfield 11, 3), (4, .iload_n 1, 1), (5, .bipush 7, 2), (7, .imul, 1), (8, .iload_n 2, 1), (9, .iadd, 1), (10, .lload_n 3, 1), (11, .lastore, 1), (12, .return_, 1)]
theorem tX1_putCell : Tb mX1_putCell.2.1 lX1_putCell := Tb.of (by decide +kernel)
def lX2_init : List (Nat × Instr × Nat) := [(0, .aload_n 0, 1), (1, .invokespecial 1, 3), (4, .aload_n 0, 1), (5, .lconst 0, 1), (6, .putfield 7, 3), (9, .aload_n 0, 1), (10, .lconst 1, 1), (11, .putfield 13, 3), (14, .return_, 1)]
theorem tX2_init : Tb mX2_init.2.1 lX2_init := Tb.of (by decide +kernel)
def lX2_put : List (Nat × Instr × Nat) := [(0, .lload_n 1, 1), (1, .lload_n 3, 1), (2, .invokestatic 16, 3), (5, .lstore 5, 2), (7, .lload_n 3, 1), (8, .lconst 0, 1), (9, .lcmp, 1), (10, .ifCond .le 29, 3), (13, .lload 5, 2), (15, .lconst 0, 1), (16, .lcmp, 1), (17, .ifCond .le 22, 3), (20, .aload_n 0, 1), (21, .lload_n 1, 1), (22, .lload 5, 2), (24, .ldiv, 1), (25, .putfield 7, 3), (28, .aload_n 0, 1), (29, .lload_n 3, 1), (30, .lload 5, 2), (32, .ldiv, 1), (33, .putfield 13, 3), (36, .goto 13, 3), (39, .aload_n 0, 1), (40, .lconst 0, 1), (41, .putfield 7, 3), (44, .aload_n 0, 1), (45, .lconst 1, 1), (46, .putfield 13, 3), (49, .return_, 1)]
theorem tX2_put : Tb mX2_put.2.1 lX2_put := Tb.of (by decide +kernel)
def lX2_part : List (Nat × Instr × Nat) := [(0, .iload_n 1, 1), (1, .ifCond .eq 10, 3), (4, .aload_n 0, 1), (5, .getfield 13, 3), (8, .goto 7, 3), (11, .aload_n 0, 1), (12, .getfield 7, 3), (15, .lreturn, 1)]
theorem tX2_part : Tb mX2_part.2.1 lX2_part := Tb.of (by decide +kernel)
def lX2_commonDivisor : List (Nat × Instr × Nat) := [(0, .lload_n 0, 1), (1, .invokestatic 24, 3), (4, .lstore 4, 2), (6, .lload_n 2, 1), (7, .invokestatic 24, 3), (10, .lstore 6, 2), (12, .iconst 0, 1), (13, .istore 8, 2), (15, .iload 8, 2), (17, .sipush 1000, 3), (20, .if_icmp .ge 31, 3), (23, .lload 6, 2), (25, .lconst 0, 1), (26, .lcmp, 1), (27, .ifCond .le 24, 3), (30, .lload 4, 2), (32, .lload 6, 2), (34, .lrem, 1), (35, .lstore 9, 2), (37, .lload 6, 2), (39, .lstore 4, 2), (41, .lload 9, 2), (43, .lstore 6, 2), (45, .iinc 8 1, 3), (48, .goto (-33), 3), (51, .lload 4, 2), (53, .lreturn, 1)]
theorem tX2_commonDivisor : Tb mX2_commonDivisor.2.1 lX2_commonDivisor := Tb.of (by decide +kernel)
def lX3_init : List (Nat × Instr × Nat) := [(0, .aload_n 0, 1), (1, .invokespecial 3, 3), (4, .aload_n 0, 1), (5, .iconst 0, 1), (6, .putfield 9, 3), (9, .aload_n 0, 1), (10, .iconst 0, 1), (11, .putfield 15, 3), (14, .aload_n 0, 1), (15, .iconst 0, 1), (16, .putfield 18, 3), (19, .aload_n 0, 1), (20, .iconst 0, 1), (21, .putfield 21, 3), (24, .aload_n 0, 1), (25, .bipush 15, 2), (27, .newarray .int, 2), (29, .putfield 24, 3), (32, .aload_n 0, 1), (33, .bipush 15, 2), (35, .newarray .int, 2), (37, .putfield 28, 3), (40, .aload_n 0, 1), (41, .bipush 36, 2), (43, .newarray .int, 2), (45, .putfield 31, 3), (48, .aload_n 0, 1), (49, .bipush 6, 2), (51, .newarray .int, 2), (53, .putfield 34, 3), (56, .aload_n 0, 1), (57, .bipush 6, 2), (59, .newarray .int, 2), (61, .putfield 37, 3), (64, .aload_n 0, 1), (65, .getstatic 40, 3), (68, .putfield 43, 3), (71, .return_, 1)]
theorem tX3_init : Tb mX3_init.2.1 lX3_init := Tb.of (by decide +kernel)
def lX3_copyFrom : List (Nat × Instr × Nat) := [(0, .aload_n 0, 1), (1, .aload_n 1, 1), (2, .getfield 9, 3), (5, .putfield 9, 3), (8, .aload_n 0, 1), (9, .aload_n 1, 1), (10, .getfield 15, 3), (13, .putfield 15, 3), (16, .aload_n 0, 1), (17, .aload_n 1, 1), (18, .getfield 18, 3), (21, .putfield 18, 3), (24, .aload_n 0, 1), (25, .aload_n 1, 1), (26, .getfield 21, 3), (29, .putfield 21, 3), (32, .aload_n 0, 1), (33, .aload_n 1, 1), (34, .getfield 43, 3), (37, .putfield 43, 3), (40, .aload_n 1, 1), (41, .getfield 24, 3), (44, .iconst 0, 1), (45, .aload_n 0, 1), (46, .getfield 24, 3), (49, .iconst 0, 1), (50, .bipush 15, 2), (52, .invokestatic 46, 3), (55, .aload_n 1, 1), (56, .getfield 28, 3), (59, .iconst 0, 1), (60, .aload_n 0, 1), (61, .getfield 28, 3), (64, .iconst 0, 1), (65, .bipush 15, 2), (67, .invokestatic 46, 3), (70, .aload_n 1, 1), (71, .getfield 31, 3), (74, .iconst 0, 1), (75, .aload_n 0, 1), (76, .getfield 31, 3), (79, .iconst 0, 1), (80, .bipush 36, 2), (82, .invokestatic 46, 3), (85, .aload_n 1, 1), (86, .getfield 34, 3), (89, .iconst 0, 1), (90, .aload_n 0, 1), (91, .getfield 34, 3), (94, .iconst 0, 1), (95, .bipush 6, 2), (97, .invokestatic 46, 3), (100, .return_, 1)]
theorem tX3_copyFrom : Tb mX3_copyFrom.2.1 lX3_copyFrom := Tb.of (by decide +kernel)
def lX3_clear : List (Nat × Instr × Nat) := [(0, .aload_n 0, 1), (1, .iconst 0, 1), (2, .bipush 6, 2), (4, .iload_n 1, 1), (5, .invokestatic 52, 3), (8, .invokestatic 58, 3), (11, .putfield 9, 3), (14, .aload_n 0, 1), (15, .iconst 0, 1), (16, .putfield 15, 3), (19, .aload_n 0, 1), (20, .iconst 0, 1), (21, .putfield 18, 3), (24, .aload_n 0, 1), (25, .aload_n 0, 1), (26, .getfield 9, 3), (29, .putfield 21, 3), (32, .aload_n 0, 1), (33, .getstatic 40, 3), (36, .putfield 43, 3), (39, .aload_n 0, 1), (40, .getfield 31, 3), (43, .iconst 0, 1), (44, .invokestatic 61, 3), (47, .iconst 0, 1), (48, .istore_n 2, 1), (49, .iload_n 2, 1), (50, .bipush 6, 2), (52, .if_icmp .ge 16, 3), (55, .aload_n 0, 1), (56, .getfield 34, 3), (59, .iload_n 2, 1), (60, .iload_n 2, 1), (61, .iastore, 1), (62, .iinc 2 1, 3), (65, .goto (-16), 3), (68, .return_, 1)]
theorem tX3_clear : Tb mX3_clear.2.1 lX3_clear := Tb.of (by decide +kernel)
def lX3_weightBetween : List (Nat × Instr × Nat) := [(0, .aload_n 0, 1), (1, .getfield 31, 3), (4, .iload_n 1, 1), (5, .bipush 6, 2), (7, .imul, 1), (8, .iload_n 2, 1), (9, .iadd, 1), (10, .iaload, 1), (11, .ireturn, 1)]
theorem tX3_weightBetween : Tb mX3_weightBetween.2.1 lX3_weightBetween := Tb.of (by decide +kernel)
def lX3_putWeight : List (Nat × Instr × Nat) := [(0, .aload_n 0, 1), (1, .getfield 31, 3), (4, .iload_n 1, 1), (5, .bipush 6, 2), (7, .imul, 1), (8, .iload_n 2, 1), (9, .iadd, 1), (10, .iload_n 3, 1), (11, .iastore, 1), (12, .aload_n 0, 1), (13, .getfield 31, 3), (16, .iload_n 2, 1), (17, .bipush 6, 2), (19, .imul, 1), (20, .iload_n 1, 1), (21, .iadd, 1), (22, .iload_n 3, 1), (23, .iastore, 1), (24, .return_, 1)]
theorem tX3_putWeight : Tb mX3_putWeight.2.1 lX3_putWeight := Tb.of (by decide +kernel)
def lX3_putEdge : List (Nat × Instr × Nat) := [(0, .aload_n 0, 1), (1, .getfield 15, 3), (4, .bipush 15, 2), (6, .if_icmp .ge 48, 3), (9, .aload_n 0, 1), (10, .getfield 24, 3), (13, .aload_n 0, 1), (14, .getfield 15, 3), (17, .iload_n 1, 1), (18, .iload_n 2, 1), (19, .invokestatic 52, 3), (22, .iastore, 1), (23, .aload_n 0, 1), (24, .getfield 28, 3), (27, .aload_n 0, 1), (28, .getfield 15, 3), (31, .iload_n 1, 1), (32, .iload_n 2, 1), (33, .invokestatic 58, 3), (36, .iastore, 1), (37, .aload_n 0, 1), (38, .dup, 1), (39, .getfield 15, 3), (42, .iconst 1, 1), (43, .iadd, 1), (44, .putfield 15, 3), (47, .aload_n 0, 1), (48, .iload_n 1, 1), (49, .iload_n 2, 1), (50, .iload_n 3, 1), (51, .invokevirtual 67, 3), (54, .return_, 1)]
theorem tX3_putEdge : Tb mX3_putEdge.2.1 lX3_putEdge := Tb.of (by decide +kernel)
def lX3_isAbsorbing : List (Nat × Instr × Nat) := [(0, .aload_n 0, 1), (1, .getfield 18, 3), (4, .iload_n 1, 1), (5, .ishr, 1), (6, .iconst 1, 1), (7, .iand, 1), (8, .ifCond .eq 7, 3), (11, .iconst 1, 1), (12, .goto 4, 3), (15, .iconst 0, 1), (16, .ireturn, 1)]
theorem tX3_isAbsorbing : Tb mX3_isAbsorbing.2.1 lX3_isAbsorbing := Tb.of (by decide +kernel)
def lX3_sumOfWeights : List (Nat × Instr × Nat) := [(0, .iconst 0, 1), (1, .istore_n 2, 1), (2, .iconst 0, 1), (3, .istore_n 3, 1), (4, .iload_n 3, 1), (5, .aload_n 0, 1), (6, .getfield 9, 3), (9, .if_icmp .ge 18, 3), (12, .iload_n 2, 1), (13, .aload_n 0, 1), (14, .iload_n 1, 1), (15, .iload_n 3, 1), (16, .invokevirtual 71, 3), (19, .iadd, 1), (20, .istore_n 2, 1), (21, .iinc 3 1, 3), (24, .goto (-20), 3), (27, .iload_n 2, 1), (28, .ireturn, 1)]
theorem tX3_sumOfWeights : Tb mX3_sumOfWeights.2.1 lX3_sumOfWeights := Tb.of (by decide +kernel)
def lX3_component : List (Nat × Instr × Nat) := [(0, .iconst 1, 1), (1, .iload_n 1, 1), (2, .ishl, 1), (3, .istore_n 2, 1), (4, .iconst 1, 1), (5, .istore_n 3, 1), (6, .iload_n 3, 1), (7, .aload_n 0, 1), (8, .getfield 9, 3), (11, .if_icmp .ge 45, 3), (14, .iconst 0, 1), (15, .istore 4, 2), (17, .iload 4, 2), (19, .aload_n 0, 1), (20, .getfield 9, 3), (23, .if_icmp .ge 27, 3), (26, .iload_n 2, 1), (27, .iload 4, 2), (29, .ishr, 1), (30, .iconst 1, 1), (31, .iand, 1), (32, .ifCond .eq 12, 3), (35, .iload_n 2, 1), (36, .aload_n 0, 1), (37, .iload 4, 2), (39, .invokevirtual 74, 3), (42, .ior, 1), (43, .istore_n 2, 1), (44, .iinc 4 1, 3), (47, .goto (-30), 3), (50, .iinc 3 1, 3), (53, .goto (-47), 3), (56, .iload_n 2, 1), (57, .ireturn, 1)]
theorem tX3_component : Tb mX3_component.2.1 lX3_component := Tb.of (by decide +kernel)
def lX3_hasWay : List (Nat × Instr × Nat) := [(0, .aload_n 0, 1), (1, .iload_n 1, 1), (2, .invokevirtual 78, 3), (5, .iload_n 2, 1), (6, .ishr, 1), (7, .iconst 1, 1), (8, .iand, 1), (9, .ifCond .eq 7, 3), (12, .iconst 1, 1), (13, .goto 4, 3), (16, .iconst 0, 1), (17, .ireturn, 1)]
theorem tX3_hasWay : Tb mX3_hasWay.2.1 lX3_hasWay := Tb.of (by decide +kernel)
def lX3_stepChance : List (Nat × Instr × Nat) := [(0, .aload_n 0, 1), (1, .iload_n 1, 1), (2, .invokevirtual 81, 3), (5, .istore 4, 2), (7, .iload 4, 2), (9, .ifCond .le 20, 3), (12, .aload_n 3, 1), (13, .aload_n 0, 1), (14, .iload_n 1, 1), (15, .iload_n 2, 1), (16, .invokevirtual 71, 3), (19, .i2l, 1), (20, .iload 4, 2), (22, .i2l, 1), (23, .invokevirtual 84, 3), (26, .goto 18, 3), (29, .aload_n 3, 1), (30, .iload_n 1, 1), (31, .iload_n 2, 1), (32, .if_icmp .ne 7, 3), (35, .lconst 1, 1), (36, .goto 4, 3), (39, .lconst 0, 1), (40, .lconst 1, 1), (41, .invokevirtual 84, 3), (44, .return_, 1)]
theorem tX3_stepChance : Tb mX3_stepChance.2.1 lX3_stepChance := Tb.of (by decide +kernel)
def lX3_uniteBlocks : List (Nat × Instr × Nat) := [(0, .aload_n 0, 1), (1, .getfield 34, 3), (4, .iload_n 1, 1), (5, .iaload, 1), (6, .istore_n 3, 1), (7, .aload_n 0, 1), (8, .getfield 34, 3), (11, .iload_n 2, 1), (12, .iaload, 1), (13, .istore 4, 2), (15, .iconst 0, 1), (16, .istore 5, 2), (18, .iload 5, 2), (20, .aload_n 0, 1), (21, .getfield 9, 3), (24, .if_icmp .ge 29, 3), (27, .aload_n 0, 1), (28, .getfield 34, 3), (31, .iload 5, 2), (33, .iaload, 1), (34, .iload 4, 2), (36, .if_icmp .ne 11, 3), (39, .aload_n 0, 1), (40, .getfield 34, 3), (43, .iload 5, 2), (45, .iload_n 3, 1), (46, .iastore, 1), (47, .iinc 5 1, 3), (50, .goto (-32), 3), (53, .aload_n 0, 1), (54, .invokevirtual 90, 3), (57, .return_, 1)]
theorem tX3_uniteBlocks : Tb mX3_uniteBlocks.2.1 lX3_uniteBlocks := Tb.of (by decide +kernel)
def lX3_numberBlocks : List (Nat × Instr × Nat) := [(0, .aload_n 0, 1), (1, .getfield 34, 3), (4, .iconst 0, 1), (5, .aload_n 0, 1), (6, .getfield 37, 3), (9, .iconst 0, 1), (10, .bipush 6, 2), (12, .invokestatic 46, 3), (15, .aload_n 0, 1), (16, .iconst 0, 1), (17, .putfield 21, 3), (20, .iconst 0, 1), (21, .istore_n 1, 1), (22, .iload_n 1, 1), (23, .aload_n 0, 1), (24, .getfield 9, 3), (27, .if_icmp .ge 77, 3), (30, .iconst 0, 1), (31, .istore_n 2, 1), (32, .iload_n 2, 1), (33, .iload_n 1, 1), (34, .if_icmp .ge 24, 3), (37, .aload_n 0, 1), (38, .getfield 37, 3), (41, .iload_n 2, 1), (42, .iaload, 1), (43, .aload_n 0, 1), (44, .getfield 37, 3), (47, .iload_n 1, 1), (48, .iaload, 1), (49, .if_icmp .eq 9, 3), (52, .iinc 2 1, 3), (55, .goto (-23), 3), (58, .iload_n 2, 1), (59, .iload_n 1, 1), (60, .if_icmp .ge 18, 3), (63, .aload_n 0, 1), (64, .getfield 34, 3), (67, .iload_n 1, 1), (68, .aload_n 0, 1), (69, .getfield 34, 3), (72, .iload_n 2, 1), (73, .iaload, 1), (74, .iastore, 1), (75, .goto 23, 3), (78, .aload_n 0, 1), (79, .getfield 34, 3), (82, .iload_n 1, 1), (83, .aload_n 0, 1), (84, .getfield 21, 3), (87, .iastore, 1), (88, .aload_n 0, 1), (89, .dup, 1), (90, .getfield 21, 3), (93, .iconst 1, 1), (94, .iadd, 1), (95, .putfield 21, 3), (98, .iinc 1 1, 3), (101, .goto (-79), 3), (104, .return_, 1)]
theorem tX3_numberBlocks : Tb mX3_numberBlocks.2.1 lX3_numberBlocks := Tb.of (by decide +kernel)
def lX3_neighbours : List (Nat × Instr × Nat) := [(0, .iconst 0, 1), (1, .istore_n 2, 1), (2, .iconst 0, 1), (3, .istore_n 3, 1), (4, .iload_n 3, 1), (5, .aload_n 0, 1), (6, .getfield 9, 3), (9, .if_icmp .ge 24, 3), (12, .aload_n 0, 1), (13, .iload_n 1, 1), (14, .iload_n 3, 1), (15, .invokevirtual 71, 3), (18, .ifCond .eq 9, 3), (21, .iload_n 2, 1), (22, .iconst 1, 1), (23, .iload_n 3, 1), (24, .ishl, 1), (25, .ior, 1), (26, .istore_n 2, 1), (27, .iinc 3 1, 3), (30, .goto (-26), 3), (33, .iload_n 2, 1), (34, .ireturn, 1)]
theorem tX3_neighbours : Tb mX3_neighbours.2.1 lX3_neighbours := Tb.of (by decide +kernel)
def lX4_init : List (Nat × Instr × Nat) := [(0, .aload_n 0, 1), (1, .invokespecial 3, 3), (4, .aload_n 0, 1), (5, .bipush 8, 2), (7, .anewarray 9, 3), (10, .putfield 11, 3), (13, .aload_n 0, 1), (14, .iconst 0, 1), (15, .putfield 17, 3), (18, .aload_n 0, 1), (19, .iconst 0, 1), (20, .putfield 21, 3), (23, .iconst 0, 1), (24, .istore_n 1, 1), (25, .iload_n 1, 1), (26, .bipush 8, 2), (28, .if_icmp .ge 22, 3), (31, .aload_n 0, 1), (32, .getfield 11, 3), (35, .iload_n 1, 1), (36, .new 9, 3), (39, .dup, 1), (40, .invokespecial 24, 3), (43, .aastore, 1), (44, .iinc 1 1, 3), (47, .goto (-22), 3), (50, .return_, 1)]
theorem tX4_init : Tb mX4_init.2.1 lX4_init := Tb.of (by decide +kernel)
def lX4_keep : List (Nat × Instr × Nat) := [(0, .aload_n 0, 1), (1, .getfield 11, 3), (4, .aload_n 0, 1), (5, .getfield 17, 3), (8, .aaload, 1), (9, .aload_n 1, 1), (10, .invokevirtual 25, 3), (13, .aload_n 0, 1), (14, .aload_n 0, 1), (15, .getfield 17, 3), (18, .iconst 1, 1), (19, .iadd, 1), (20, .bipush 8, 2), (22, .irem, 1), (23, .putfield 17, 3), (26, .aload_n 0, 1), (27, .aload_n 0, 1), (28, .getfield 21, 3), (31, .iconst 1, 1), (32, .iadd, 1), (33, .bipush 8, 2), (35, .invokestatic 29, 3), (38, .putfield 21, 3), (41, .return_, 1)]
theorem tX4_keep : Tb mX4_keep.2.1 lX4_keep := Tb.of (by decide +kernel)
def lX5_init : List (Nat × Instr × Nat) := [(0, .aload_n 0, 1), (1, .invokespecial 3, 3), (4, .aload_n 0, 1), (5, .new 9, 3), (8, .dup, 1), (9, .invokespecial 11, 3), (12, .putfield 12, 3), (15, .aload_n 0, 1), (16, .bipush 6, 2), (18, .newarray .long, 2), (20, .putfield 18, 3), (23, .aload_n 0, 1), (24, .bipush 6, 2), (26, .newarray .int, 2), (28, .putfield 22, 3), (31, .return_, 1)]
theorem tX5_init : Tb mX5_init.2.1 lX5_init := Tb.of (by decide +kernel)
def lX6_init : List (Nat × Instr × Nat) := [(0, .aload_n 0, 1), (1, .invokespecial 3, 3), (4, .aload_n 0, 1), (5, .new 9, 3), (8, .dup, 1), (9, .invokespecial 11, 3), (12, .putfield 12, 3), (15, .aload_n 0, 1), (16, .new 18, 3), (19, .dup, 1), (20, .invokespecial 20, 3), (23, .putfield 21, 3), (26, .aload_n 0, 1), (27, .iconst 0, 1), (28, .putfield 25, 3), (31, .aload_n 0, 1), (32, .iconst (-1), 1), (33, .putfield 29, 3), (36, .aload_n 0, 1), (37, .iconst 0, 1), (38, .putfield 32, 3), (41, .aload_n 0, 1), (42, .sipush 256, 3), (45, .putfield 35, 3), (48, .aload_n 0, 1), (49, .iconst 0, 1), (50, .putfield 38, 3), (53, .aload_n 0, 1), (54, .iconst 0, 1), (55, .putfield 41, 3), (58, .aload_n 0, 1), (59, .iconst 0, 1), (60, .putfield 44, 3), (63, .aload_n 0, 1), (64, .sipush 600, 3), (67, .newarray .int, 2), (69, .putfield 48, 3), (72, .aload_n 0, 1), (73, .iconst 0, 1), (74, .putfield 52, 3), (77, .aload_n 0, 1), (78, .bipush 14, 2), (80, .newarray .int, 2), (82, .putfield 55, 3), (85, .aload_n 0, 1), (86, .iconst 0, 1), (87, .putfield 58, 3), (90, .return_, 1)]
theorem tX6_init : Tb mX6_init.2.1 lX6_init := Tb.of (by decide +kernel)
def lX6_readSetup : List (Nat × Instr × Nat) := [(0, .aload_n 0, 1), (1, .iconst 0, 1), (2, .putfield 32, 3), (5, .aload_n 0, 1), (6, .iconst 0, 1), (7, .putfield 44, 3), (10, .aload_n 0, 1), (11, .invokevirtual 61, 3), (14, .aload_n 0, 1), (15, .getfield 35, 3), (18, .sipush 258, 3), (21, .if_icmp .eq 10, 3), (24, .aload_n 0, 1), (25, .bipush (-2), 2), (27, .invokevirtual 64, 3), (30, .ireturn, 1), (31, .aload_n 0, 1), (32, .iconst 2, 1), (33, .bipush 6, 2), (35, .invokevirtual 68, 3), (38, .ifCond .ne 5, 3), (41, .iconst 0, 1), (42, .ireturn, 1), (43, .aload_n 0, 1), (44, .getfield 21, 3), (47, .aload_n 0, 1), (48, .getfield 41, 3), (51, .invokevirtual 72, 3), (54, .aload_n 0, 1), (55, .invokevirtual 76, 3), (58, .ifCond .ne 5, 3), (61, .iconst 0, 1), (62, .ireturn, 1), (63, .iconst 0, 1), (64, .istore_n 1, 1), (65, .iload_n 1, 1), (66, .aload_n 0, 1), (67, .getfield 12, 3), (70, .getfield 80, 3), (73, .if_icmp .ge 34, 3), (76, .aload_n 0, 1), (77, .invokevirtual 61, 3), (80, .aload_n 0, 1), (81, .getfield 35, 3), (84, .sipush 256, 3), (87, .if_icmp .ne 5, 3), (90, .iconst 1, 1), (91, .ireturn, 1), (92, .aload_n 0, 1), (93, .invokevirtual 83, 3), (96, .ifCond .ne 5, 3), (99, .iconst 0, 1), (100, .ireturn, 1), (101, .iinc 1 1, 3), (104, .goto (-39), 3), (107, .aload_n 0, 1), (108, .bipush (-2), 2), (110, .invokevirtual 64, 3), (113, .ireturn, 1)]
theorem tX6_readSetup : Tb mX6_readSetup.2.1 lX6_readSetup := Tb.of (by decide +kernel)
def lX6_readStatement : List (Nat × Instr × Nat) := [(0, .aload_n 0, 1), (1, .getfield 35, 3), (4, .tableswitch 97 259 262 #[32, 52, 72, 92], 32), (36, .aload_n 0, 1), (37, .invokevirtual 86, 3), (40, .ifCond .eq 14, 3), (43, .aload_n 0, 1), (44, .invokevirtual 76, 3), (47, .ifCond .eq 7, 3), (50, .iconst 1, 1), (51, .goto 4, 3), (54, .iconst 0, 1), (55, .ireturn, 1), (56, .aload_n 0, 1), (57, .invokevirtual 89, 3), (60, .ifCond .eq 14, 3), (63, .aload_n 0, 1), (64, .invokevirtual 76, 3), (67, .ifCond .eq 7, 3), (70, .iconst 1, 1), (71, .goto 4, 3), (74, .iconst 0, 1), (75, .ireturn, 1), (76, .aload_n 0, 1), (77, .invokevirtual 92, 3), (80, .ifCond .eq 14, 3), (83, .aload_n 0, 1), (84, .invokevirtual 76, 3), (87, .ifCond .eq 7, 3), (90, .iconst 1, 1), (91, .goto 4, 3), (94, .iconst 0, 1), (95, .ireturn, 1), (96, .aload_n 0, 1), (97, .invokevirtual 95, 3), (100, .ireturn, 1), (101, .aload_n 0, 1), (102, .bipush (-2), 2), (104, .invokevirtual 64, 3), (107, .ireturn, 1)]
theorem tX6_readStatement : Tb mX6_readStatement.2.1 lX6_readStatement := Tb.of (by decide +kernel)
def lX6_readEdge : List (Nat × Instr × Nat) := [(0, .aload_n 0, 1), (1, .invokevirtual 98, 3), (4, .ifCond .ne 5, 3), (7, .iconst 0, 1), (8, .ireturn, 1), (9, .aload_n 0, 1), (10, .getfield 41, 3), (13, .istore_n 1, 1), (14, .aload_n 0, 1), (15, .invokevirtual 98, 3), (18, .ifCond .ne 5, 3), (21, .iconst 0, 1), (22, .ireturn, 1), (23, .aload_n 0, 1), (24, .getfield 41, 3), (27, .istore_n 2, 1), (28, .iload_n 1, 1), (29, .iload_n 2, 1), (30, .if_icmp .eq 15, 3), (33, .aload_n 0, 1), (34, .getfield 21, 3), (37, .iload_n 1, 1), (38, .iload_n 2, 1), (39, .invokevirtual 101, 3), (42, .ifCond .eq 10, 3), (45, .aload_n 0, 1), (46, .bipush (-4), 2), (48, .invokevirtual 64, 3), (51, .ireturn, 1), (52, .aload_n 0, 1), (53, .iconst 1, 1), (54, .bipush 9, 2), (56, .invokevirtual 68, 3), (59, .ifCond .ne 5, 3), (62, .iconst 0, 1), (63, .ireturn, 1), (64, .aload_n 0, 1), (65, .getfield 21, 3), (68, .iload_n 1, 1), (69, .iload_n 2, 1), (70, .aload_n 0, 1), (71, .getfield 41, 3), (74, .invokevirtual 105, 3), (77, .iconst 1, 1), (78, .ireturn, 1)]
theorem tX6_readEdge : Tb mX6_readEdge.2.1 lX6_readEdge := Tb.of (by decide +kernel)
def lX6_readAbsorb : List (Nat × Instr × Nat) := [(0, .aload_n 0, 1), (1, .invokevirtual 98, 3), (4, .ifCond .ne 5, 3), (7, .iconst 0, 1), (8, .ireturn, 1), (9, .aload_n 0, 1), (10, .getfield 21, 3), (13, .aload_n 0, 1), (14, .getfield 41, 3), (17, .invokevirtual 109, 3), (20, .ifCond .eq 10, 3), (23, .aload_n 0, 1), (24, .bipush (-4), 2), (26, .invokevirtual 64, 3), (29, .ireturn, 1), (30, .aload_n 0, 1), (31, .getfield 21, 3), (34, .dup, 1), (35, .getfield 112, 3), (38, .iconst 1, 1), (39, .aload_n 0, 1), (40, .getfield 41, 3), (43, .ishl, 1), (44, .ior, 1), (45, .putfield 112, 3), (48, .iconst 1, 1), (49, .ireturn, 1)]
theorem tX6_readAbsorb : Tb mX6_readAbsorb.2.1 lX6_readAbsorb := Tb.of (by decide +kernel)
def lX6_readJoin : List (Nat × Instr × Nat) := [(0, .aload_n 0, 1), (1, .invokevirtual 98, 3), (4, .ifCond .ne 5, 3), (7, .iconst 0, 1), (8, .ireturn, 1), (9, .aload_n 0, 1), (10, .getfield 41, 3), (13, .istore_n 1, 1), (14, .aload_n 0, 1), (15, .invokevirtual 98, 3), (18, .ifCond .ne 5, 3), (21, .iconst 0, 1), (22, .ireturn, 1), (23, .aload_n 0, 1), (24, .getfield 21, 3), (27, .iload_n 1, 1), (28, .aload_n 0, 1), (29, .getfield 41, 3), (32, .invokevirtual 115, 3), (35, .iconst 1, 1), (36, .ireturn, 1)]
theorem tX6_readJoin : Tb mX6_readJoin.2.1 lX6_readJoin := Tb.of (by decide +kernel)
def lX6_readCost : List (Nat × Instr × Nat) := [(0, .aload_n 0, 1), (1, .getfield 44, 3), (4, .ifCond .eq 10, 3), (7, .aload_n 0, 1), (8, .bipush (-2), 2), (10, .invokevirtual 64, 3), (13, .ireturn, 1), (14, .aload_n 0, 1), (15, .iconst 1, 1), (16, .putfield 44, 3), (19, .aload_n 0, 1), (20, .iconst 0, 1), (21, .putfield 52, 3), (24, .aload_n 0, 1), (25, .iconst 0, 1), (26, .putfield 58, 3), (29, .iconst 0, 1), (30, .istore_n 1, 1), (31, .iconst 1, 1), (32, .istore_n 2, 1), (33, .iconst 0, 1), (34, .istore_n 3, 1), (35, .iload_n 3, 1), (36, .aload_n 0, 1), (37, .getfield 12, 3), (40, .getfield 80, 3), (43, .if_icmp .ge 183, 3), (46, .aload_n 0, 1), (47, .invokevirtual 61, 3), (50, .iload_n 2, 1), (51, .ifCond .eq 38, 3), (54, .aload_n 0, 1), (55, .getfield 35, 3), (58, .bipush 40, 2), (60, .if_icmp .ne 29, 3), (63, .iload_n 1, 1), (64, .iconst 4, 1), (65, .if_icmp .lt 10, 3), (68, .aload_n 0, 1), (69, .bipush (-5), 2), (71, .invokevirtual 64, 3), (74, .ireturn, 1), (75, .iinc 1 1, 3), (78, .aload_n 0, 1), (79, .aload_n 0, 1), (80, .getfield 35, 3), (83, .invokevirtual 119, 3), (86, .goto 134, 3), (89, .iload_n 2, 1), (90, .ifCond .eq 17, 3), (93, .aload_n 0, 1), (94, .invokevirtual 122, 3), (97, .ifCond .ne 5, 3), (100, .iconst 0, 1), (101, .ireturn, 1), (102, .iconst 0, 1), (103, .istore_n 2, 1), (104, .goto 116, 3), (107, .aload_n 0, 1), (108, .getfield 35, 3), (111, .invokestatic 125, 3), (114, .ifCond .le 27, 3), (117, .aload_n 0, 1), (118, .aload_n 0, 1), (119, .getfield 35, 3), (122, .invokestatic 125, 3), (125, .invokevirtual 129, 3), (128, .aload_n 0, 1), (129, .aload_n 0, 1), (130, .getfield 35, 3), (133, .invokevirtual 119, 3), (136, .iconst 1, 1), (137, .istore_n 2, 1), (138, .goto 82, 3), (141, .aload_n 0, 1), (142, .getfield 35, 3), (145, .bipush 41, 2), (147, .if_icmp .ne 28, 3), (150, .iload_n 1, 1), (151, .ifCond .le 24, 3), (154, .aload_n 0, 1), (155, .iconst 1, 1), (156, .invokevirtual 129, 3), (159, .aload_n 0, 1), (160, .dup, 1), (161, .getfield 58, 3), (164, .iconst 1, 1), (165, .isub, 1), (166, .putfield 58, 3), (169, .iinc 1 (-1), 3), (172, .goto 48, 3), (175, .aload_n 0, 1), (176, .getfield 35, 3), (179, .bipush 59, 2), (181, .if_icmp .ne 32, 3), (184, .iload_n 1, 1), (185, .ifCond .ne 28, 3), (188, .aload_n 0, 1), (189, .iconst 1, 1), (190, .invokevirtual 129, 3), (193, .aload_n 0, 1), (194, .getfield 21, 3), (197, .aload_n 0, 1), (198, .getfield 48, 3), (201, .aload_n 0, 1), (202, .getfield 52, 3), (205, .invokestatic 132, 3), (208, .putfield 138, 3), (211, .iconst 1, 1), (212, .ireturn, 1), (213, .aload_n 0, 1), (214, .bipush (-2), 2), (216, .invokevirtual 64, 3), (219, .ireturn, 1), (220, .iinc 3 1, 3), (223, .goto (-188), 3), (226, .aload_n 0, 1), (227, .bipush (-2), 2), (229, .invokevirtual 64, 3), (232, .ireturn, 1)]
theorem tX6_readCost : Tb mX6_readCost.2.1 lX6_readCost := Tb.of (by decide +kernel)
def lX6_readFactor : List (Nat × Instr × Nat) := [(0, .aload_n 0, 1), (1, .getfield 35, 3), (4, .tableswitch 102 257 265 #[52, 102, 102, 102, 102, 102, 79, 86, 94], 52), (56, .aload_n 0, 1), (57, .getfield 41, 3), (60, .sipush 9999, 3), (63, .if_icmp .le 10, 3), (66, .aload_n 0, 1), (67, .bipush (-3), 2), (69, .invokevirtual 64, 3), (72, .ireturn, 1), (73, .aload_n 0, 1), (74, .aload_n 0, 1), (75, .getfield 41, 3), (78, .invokevirtual 141, 3), (81, .iconst 1, 1), (82, .ireturn, 1), (83, .aload_n 0, 1), (84, .iconst (-1), 1), (85, .invokevirtual 141, 3), (88, .iconst 1, 1), (89, .ireturn, 1), (90, .aload_n 0, 1), (91, .bipush (-2), 2), (93, .invokevirtual 141, 3), (96, .iconst 1, 1), (97, .ireturn, 1), (98, .aload_n 0, 1), (99, .bipush (-3), 2), (101, .invokevirtual 141, 3), (104, .iconst 1, 1), (105, .ireturn, 1), (106, .aload_n 0, 1), (107, .bipush (-2), 2), (109, .invokevirtual 64, 3), (112, .ireturn, 1)]
theorem tX6_readFactor : Tb mX6_readFactor.2.1 lX6_readFactor := Tb.of (by decide +kernel)
def lX6_emit : List (Nat × Instr × Nat) := [(0, .aload_n 0, 1), (1, .getfield 52, 3), (4, .aload_n 0, 1), (5, .getfield 48, 3), (8, .arraylength, 1), (9, .if_icmp .ge 23, 3), (12, .aload_n 0, 1), (13, .getfield 48, 3), (16, .aload_n 0, 1), (17, .getfield 52, 3), (20, .iload_n 1, 1), (21, .iastore, 1), (22, .aload_n 0, 1), (23, .dup, 1), (24, .getfield 52, 3), (27, .iconst 1, 1), (28, .iadd, 1), (29, .putfield 52, 3), (32, .return_, 1)]
theorem tX6_emit : Tb mX6_emit.2.1 lX6_emit := Tb.of (by decide +kernel)
def lX6_postpone : List (Nat × Instr × Nat) := [(0, .aload_n 0, 1), (1, .getfield 58, 3), (4, .aload_n 0, 1), (5, .getfield 55, 3), (8, .arraylength, 1), (9, .if_icmp .ge 23, 3), (12, .aload_n 0, 1), (13, .getfield 55, 3), (16, .aload_n 0, 1), (17, .getfield 58, 3), (20, .iload_n 1, 1), (21, .iastore, 1), (22, .aload_n 0, 1), (23, .dup, 1), (24, .getfield 58, 3), (27, .iconst 1, 1), (28, .iadd, 1), (29, .putfield 58, 3), (32, .return_, 1)]
theorem tX6_postpone : Tb mX6_postpone.2.1 lX6_postpone := Tb.of (by decide +kernel)
def lX6_release : List (Nat × Instr × Nat) := [(0, .aload_n 0, 1), (1, .getfield 58, 3), (4, .ifCond .le 50, 3), (7, .aload_n 0, 1), (8, .getfield 55, 3), (11, .aload_n 0, 1), (12, .getfield 58, 3), (15, .iconst 1, 1), (16, .isub, 1), (17, .iaload, 1), (18, .invokestatic 125, 3), (21, .iload_n 1, 1), (22, .if_icmp .lt 32, 3), (25, .aload_n 0, 1), (26, .dup, 1), (27, .getfield 58, 3), (30, .iconst 1, 1), (31, .isub, 1), (32, .putfield 58, 3), (35, .aload_n 0, 1), (36, .aload_n 0, 1), (37, .getfield 55, 3), (40, .aload_n 0, 1), (41, .getfield 58, 3), (44, .iaload, 1), (45, .invokestatic 146, 3), (48, .invokevirtual 141, 3), (51, .goto (-51), 3), (54, .return_, 1)]
theorem tX6_release : Tb mX6_release.2.1 lX6_release := Tb.of (by decide +kernel)
def lX6_strength : List (Nat × Instr × Nat) := [(0, .iload_n 0, 1), (1, .bipush 42, 2), (3, .if_icmp .eq 9, 3), (6, .iload_n 0, 1), (7, .bipush 47, 2), (9, .if_icmp .ne 5, 3), (12, .iconst 2, 1), (13, .ireturn, 1), (14, .iload_n 0, 1), (15, .bipush 43, 2), (17, .if_icmp .eq 9, 3), (20, .iload_n 0, 1), (21, .bipush 45, 2), (23, .if_icmp .ne 7, 3), (26, .iconst 1, 1), (27, .goto 4, 3), (30, .iconst 0, 1), (31, .ireturn, 1)]
theorem tX6_strength : Tb mX6_strength.2.1 lX6_strength := Tb.of (by decide +kernel)
def lX6_operation : List (Nat × Instr × Nat) := [(0, .iload_n 0, 1), (1, .tableswitch 40 42 45 #[37, 31, 40, 34], 31), (32, .bipush (-4), 2), (34, .ireturn, 1), (35, .bipush (-5), 2), (37, .ireturn, 1), (38, .bipush (-6), 2), (40, .ireturn, 1), (41, .bipush (-7), 2), (43, .ireturn, 1)]
theorem tX6_operation : Tb mX6_operation.2.1 lX6_operation := Tb.of (by decide +kernel)
def lX6_readVertex : List (Nat × Instr × Nat) := [(0, .aload_n 0, 1), (1, .iconst 0, 1), (2, .aload_n 0, 1), (3, .getfield 21, 3), (6, .getfield 149, 3), (9, .iconst 1, 1), (10, .isub, 1), (11, .invokevirtual 68, 3), (14, .ireturn, 1)]
theorem tX6_readVertex : Tb mX6_readVertex.2.1 lX6_readVertex := Tb.of (by decide +kernel)
def lX6_readNumber : List (Nat × Instr × Nat) := [(0, .aload_n 0, 1), (1, .invokevirtual 61, 3), (4, .aload_n 0, 1), (5, .getfield 35, 3), (8, .sipush 257, 3), (11, .if_icmp .eq 10, 3), (14, .aload_n 0, 1), (15, .bipush (-2), 2), (17, .invokevirtual 64, 3), (20, .ireturn, 1), (21, .aload_n 0, 1), (22, .getfield 41, 3), (25, .iload_n 1, 1), (26, .if_icmp .lt 11, 3), (29, .aload_n 0, 1), (30, .getfield 41, 3), (33, .iload_n 2, 1), (34, .if_icmp .le 10, 3), (37, .aload_n 0, 1), (38, .bipush (-3), 2), (40, .invokevirtual 64, 3), (43, .ireturn, 1), (44, .iconst 1, 1), (45, .ireturn, 1)]
theorem tX6_readNumber : Tb mX6_readNumber.2.1 lX6_readNumber := Tb.of (by decide +kernel)
def lX6_readSemicolon : List (Nat × Instr × Nat) := [(0, .aload_n 0, 1), (1, .invokevirtual 61, 3), (4, .aload_n 0, 1), (5, .getfield 35, 3), (8, .bipush 59, 2), (10, .if_icmp .eq 12, 3), (13, .aload_n 0, 1), (14, .bipush (-2), 2), (16, .invokevirtual 64, 3), (19, .ifCond .eq 7, 3), (22, .iconst 1, 1), (23, .goto 4, 3), (26, .iconst 0, 1), (27, .ireturn, 1)]
theorem tX6_readSemicolon : Tb mX6_readSemicolon.2.1 lX6_readSemicolon := Tb.of (by decide +kernel)
def lX6_takeToken : List (Nat × Instr × Nat) := [(0, .aload_n 0, 1), (1, .aload_n 0, 1), (2, .getfield 12, 3), (5, .getfield 152, 3), (8, .aload_n 0, 1), (9, .getfield 32, 3), (12, .iaload, 1), (13, .putfield 35, 3), (16, .aload_n 0, 1), (17, .aload_n 0, 1), (18, .getfield 12, 3), (21, .getfield 155, 3), (24, .aload_n 0, 1), (25, .getfield 32, 3), (28, .iaload, 1), (29, .putfield 38, 3), (32, .aload_n 0, 1), (33, .aload_n 0, 1), (34, .getfield 12, 3), (37, .getfield 158, 3), (40, .aload_n 0, 1), (41, .getfield 32, 3), (44, .iaload, 1), (45, .putfield 41, 3), (48, .aload_n 0, 1), (49, .getfield 32, 3), (52, .aload_n 0, 1), (53, .getfield 12, 3), (56, .getfield 80, 3), (59, .iconst 1, 1), (60, .isub, 1), (61, .if_icmp .ge 13, 3), (64, .aload_n 0, 1), (65, .dup, 1), (66, .getfield 32, 3), (69, .iconst 1, 1), (70, .iadd, 1), (71, .putfield 32, 3), (74, .return_, 1)]
theorem tX6_takeToken : Tb mX6_takeToken.2.1 lX6_takeToken := Tb.of (by decide +kernel)
def lX6_fail : List (Nat × Instr × Nat) := [(0, .aload_n 0, 1), (1, .iload_n 1, 1), (2, .putfield 25, 3), (5, .aload_n 0, 1), (6, .aload_n 0, 1), (7, .getfield 38, 3), (10, .putfield 29, 3), (13, .iconst 0, 1), (14, .ireturn, 1)]
theorem tX6_fail : Tb mX6_fail.2.1 lX6_fail := Tb.of (by decide +kernel)
def lX7_init : List (Nat × Instr × Nat) := [(0, .aload_n 0, 1), (1, .invokespecial 3, 3), (4, .aload_n 0, 1), (5, .bipush 36, 2), (7, .newarray .float, 2), (9, .putfield 9, 3), (12, .aload_n 0, 1), (13, .bipush 6, 2), (15, .newarray .float, 2), (17, .putfield 15, 3), (20, .aload_n 0, 1), (21, .bipush 6, 2), (23, .newarray .float, 2), (25, .putfield 18, 3), (28, .aload_n 0, 1), (29, .new 21, 3), (32, .dup, 1), (33, .invokespecial 23, 3), (36, .putfield 24, 3), (39, .return_, 1)]
theorem tX7_init : Tb mX7_init.2.1 lX7_init := Tb.of (by decide +kernel)
def lX7_chanceAfter : List (Nat × Instr × Nat) := [(0, .aload_n 0, 1), (1, .aload_n 1, 1), (2, .invokevirtual 28, 3), (5, .iconst 0, 1), (6, .istore 5, 2), (8, .iload 5, 2), (10, .aload_n 1, 1), (11, .getfield 32, 3), (14, .if_icmp .ge 27, 3), (17, .aload_n 0, 1), (18, .getfield 15, 3), (21, .iload 5, 2), (23, .iload 5, 2), (25, .iload_n 2, 1), (26, .if_icmp .ne 7, 3), (29, .fconst 1, 1), (30, .goto 4, 3), (33, .fconst 0, 1), (34, .fastore, 1), (35, .iinc 5 1, 3), (38, .goto (-30), 3), (41, .iconst 0, 1), (42, .istore 5, 2), (44, .iload 5, 2), (46, .iload 4, 2), (48, .if_icmp .ge 56, 3), (51, .iconst 0, 1), (52, .istore 6, 2), (54, .iload 6, 2), (56, .aload_n 1, 1), (57, .getfield 32, 3), (60, .if_icmp .ge 23, 3), (63, .aload_n 0, 1), (64, .getfield 18, 3), (67, .iload 6, 2), (69, .aload_n 0, 1), (70, .aload_n 1, 1), (71, .iload 6, 2), (73, .invokevirtual 38, 3), (76, .fastore, 1), (77, .iinc 6 1, 3), (80, .goto (-26), 3), (83, .aload_n 0, 1), (84, .getfield 18, 3), (87, .iconst 0, 1), (88, .aload_n 0, 1), (89, .getfield 15, 3), (92, .iconst 0, 1), (93, .bipush 6, 2), (95, .invokestatic 42, 3), (98, .iinc 5 1, 3), (101, .goto (-57), 3), (104, .aload_n 0, 1), (105, .getfield 15, 3), (108, .iload_n 3, 1), (109, .faload, 1), (110, .freturn, 1)]
theorem tX7_chanceAfter : Tb mX7_chanceAfter.2.1 lX7_chanceAfter := Tb.of (by decide +kernel)
def lX7_fillChances : List (Nat × Instr × Nat) := [(0, .iconst 0, 1), (1, .istore_n 2, 1), (2, .iload_n 2, 1), (3, .aload_n 1, 1), (4, .getfield 32, 3), (7, .if_icmp .ge 63, 3), (10, .iconst 0, 1), (11, .istore_n 3, 1), (12, .iload_n 3, 1), (13, .aload_n 1, 1), (14, .getfield 32, 3), (17, .if_icmp .ge 47, 3), (20, .aload_n 1, 1), (21, .iload_n 2, 1), (22, .iload_n 3, 1), (23, .aload_n 0, 1), (24, .getfield 24, 3), (27, .invokevirtual 48, 3), (30, .aload_n 0, 1), (31, .getfield 9, 3), (34, .iload_n 2, 1), (35, .bipush 6, 2), (37, .imul, 1), (38, .iload_n 3, 1), (39, .iadd, 1), (40, .aload_n 0, 1), (41, .getfield 24, 3), (44, .getfield 52, 3), (47, .l2f, 1), (48, .aload_n 0, 1), (49, .getfield 24, 3), (52, .getfield 56, 3), (55, .l2f, 1), (56, .fdiv, 1), (57, .fastore, 1), (58, .iinc 3 1, 3), (61, .goto (-49), 3), (64, .iinc 2 1, 3), (67, .goto (-65), 3), (70, .return_, 1)]
theorem tX7_fillChances : Tb mX7_fillChances.2.1 lX7_fillChances := Tb.of (by decide +kernel)
def lX7_chanceAt : List (Nat × Instr × Nat) := [(0, .fconst 0, 1), (1, .fstore_n 3, 1), (2, .iconst 0, 1), (3, .istore 4, 2), (5, .iload 4, 2), (7, .aload_n 1, 1), (8, .getfield 32, 3), (11, .if_icmp .ge 43, 3), (14, .aload_n 0, 1), (15, .getfield 9, 3), (18, .iload 4, 2), (20, .bipush 6, 2), (22, .imul, 1), (23, .iload_n 2, 1), (24, .iadd, 1), (25, .faload, 1), (26, .fstore 5, 2), (28, .fload 5, 2), (30, .fconst 0, 1), (31, .fcmp .l, 1), (32, .ifCond .le 16, 3), (35, .fload_n 3, 1), (36, .aload_n 0, 1), (37, .getfield 15, 3), (40, .iload 4, 2), (42, .faload, 1), (43, .fload 5, 2), (45, .fmul, 1), (46, .fadd, 1), (47, .fstore_n 3, 1), (48, .iinc 4 1, 3), (51, .goto (-46), 3), (54, .fload_n 3, 1), (55, .freturn, 1)]
theorem tX7_chanceAt : Tb mX7_chanceAt.2.1 lX7_chanceAt := Tb.of (by decide +kernel)
def lX8_init : List (Nat × Instr × Nat) := [(0, .aload_n 0, 1), (1, .invokespecial 1, 3), (4, .aload_n 0, 1), (5, .lconst 0, 1), (6, .putfield 7, 3), (9, .aload_n 0, 1), (10, .iconst 0, 1), (11, .putfield 13, 3), (14, .aload_n 0, 1), (15, .iconst 0, 1), (16, .putfield 17, 3), (19, .aload_n 0, 1), (20, .iconst 0, 1), (21, .putfield 20, 3), (24, .aload_n 0, 1), (25, .iconst (-1), 1), (26, .putfield 23, 3), (29, .return_, 1)]
theorem tX8_init : Tb mX8_init.2.1 lX8_init := Tb.of (by decide +kernel)
def lX8_go : List (Nat × Instr × Nat) := [(0, .aload_n 0, 1), (1, .iload 5, 2), (3, .i2l, 1), (4, .putfield 7, 3), (7, .aload_n 0, 1), (8, .iload_n 3, 1), (9, .putfield 13, 3), (12, .aload_n 0, 1), (13, .iconst 1, 1), (14, .iload_n 3, 1), (15, .ishl, 1), (16, .putfield 17, 3), (19, .aload_n 0, 1), (20, .iconst 0, 1), (21, .putfield 20, 3), (24, .aload_n 0, 1), (25, .aload_n 1, 1), (26, .iload_n 3, 1), (27, .invokevirtual 26, 3), (30, .ifCond .eq 7, 3), (33, .iconst 0, 1), (34, .goto 4, 3), (37, .iconst (-1), 1), (38, .putfield 23, 3), (41, .iconst 1, 1), (42, .istore 6, 2), (44, .iload 6, 2), (46, .iload 4, 2), (48, .if_icmp .gt 76, 3), (51, .aload_n 0, 1), (52, .aload_n 1, 1), (53, .invokevirtual 32, 3), (56, .istore 7, 2), (58, .aload_n 0, 1), (59, .dup, 1), (60, .getfield 20, 3), (63, .aload_n 2, 1), (64, .aload_n 0, 1), (65, .getfield 13, 3), (68, .iload 7, 2), (70, .invokevirtual 36, 3), (73, .iadd, 1), (74, .putfield 20, 3), (77, .aload_n 0, 1), (78, .iload 7, 2), (80, .putfield 13, 3), (83, .aload_n 0, 1), (84, .dup, 1), (85, .getfield 17, 3), (88, .iconst 1, 1), (89, .iload 7, 2), (91, .ishl, 1), (92, .ior, 1), (93, .putfield 17, 3), (96, .aload_n 0, 1), (97, .getfield 23, 3), (100, .ifCond .ge 18, 3), (103, .aload_n 1, 1), (104, .iload 7, 2), (106, .invokevirtual 26, 3), (109, .ifCond .eq 9, 3), (112, .aload_n 0, 1), (113, .iload 6, 2), (115, .putfield 23, 3), (118, .iinc 6 1, 3), (121, .goto (-77), 3), (124, .return_, 1)]
theorem tX8_go : Tb mX8_go.2.1 lX8_go := Tb.of (by decide +kernel)
def lX8_told : List (Nat × Instr × Nat) := [(0, .iload_n 1, 1), (1, .tableswitch 42 0 2 #[27, 32, 37], 27), (28, .aload_n 0, 1), (29, .getfield 13, 3), (32, .ireturn, 1), (33, .aload_n 0, 1), (34, .getfield 17, 3), (37, .ireturn, 1), (38, .aload_n 0, 1), (39, .getfield 20, 3), (42, .ireturn, 1), (43, .aload_n 0, 1), (44, .getfield 23, 3), (47, .ireturn, 1)]
theorem tX8_told : Tb mX8_told.2.1 lX8_told := Tb.of (by decide +kernel)
def lX8_drawStep : List (Nat × Instr × Nat) := [(0, .aload_n 1, 1), (1, .aload_n 0, 1), (2, .getfield 13, 3), (5, .invokevirtual 42, 3), (8, .istore_n 2, 1), (9, .iload_n 2, 1), (10, .ifCond .gt 8, 3), (13, .aload_n 0, 1), (14, .getfield 13, 3), (17, .ireturn, 1), (18, .aload_n 0, 1), (19, .aload_n 0, 1), (20, .getfield 7, 3), (23, .ldc2_w 46, 3), (26, .lmul, 1), (27, .ldc2_w 48, 3), (30, .ladd, 1), (31, .ldc2_w 50, 3), (34, .lrem, 1), (35, .putfield 7, 3), (38, .aload_n 0, 1), (39, .getfield 7, 3), (42, .ldc2_w 52, 3), (45, .ldiv, 1), (46, .iload_n 2, 1), (47, .i2l, 1), (48, .lrem, 1), (49, .lstore_n 3, 1), (50, .lconst 0, 1), (51, .lstore 5, 2), (53, .iconst 0, 1), (54, .istore 7, 2), (56, .iload 7, 2), (58, .aload_n 1, 1), (59, .getfield 54, 3), (62, .if_icmp .ge 35, 3), (65, .lload 5, 2), (67, .aload_n 1, 1), (68, .aload_n 0, 1), (69, .getfield 13, 3), (72, .iload 7, 2), (74, .invokevirtual 57, 3), (77, .i2l, 1), (78, .ladd, 1), (79, .lstore 5, 2), (81, .lload 5, 2), (83, .lload_n 3, 1), (84, .lcmp, 1), (85, .ifCond .le 6, 3), (88, .iload 7, 2), (90, .ireturn, 1), (91, .iinc 7 1, 3), (94, .goto (-38), 3), (97, .aload_n 0, 1), (98, .getfield 13, 3), (101, .ireturn, 1)]
theorem tX8_drawStep : Tb mX8_drawStep.2.1 lX8_drawStep := Tb.of (by decide +kernel)
def lX9_init : List (Nat × Instr × Nat) := [(0, .aload_n 0, 1), (1, .invokespecial 3, 3), (4, .aload_n 0, 1), (5, .sipush 600, 3), (8, .newarray .byte, 2), (10, .putfield 9, 3), (13, .aload_n 0, 1), (14, .iconst 0, 1), (15, .putfield 15, 3), (18, .aload_n 0, 1), (19, .sipush 601, 3), (22, .newarray .int, 2), (24, .putfield 19, 3), (27, .aload_n 0, 1), (28, .sipush 601, 3), (31, .newarray .int, 2), (33, .putfield 23, 3), (36, .aload_n 0, 1), (37, .sipush 601, 3), (40, .newarray .int, 2), (42, .putfield 26, 3), (45, .aload_n 0, 1), (46, .iconst 0, 1), (47, .putfield 29, 3), (50, .return_, 1)]
theorem tX9_init : Tb mX9_init.2.1 lX9_init := Tb.of (by decide +kernel)
def lX9_hold : List (Nat × Instr × Nat) := [(0, .bipush 24, 2), (2, .istore_n 2, 1), (3, .iload_n 2, 1), (4, .ifCond .lt 42, 3), (7, .aload_n 0, 1), (8, .getfield 15, 3), (11, .sipush 600, 3), (14, .if_icmp .ge 26, 3), (17, .aload_n 0, 1), (18, .getfield 9, 3), (21, .aload_n 0, 1), (22, .getfield 15, 3), (25, .iload_n 1, 1), (26, .iload_n 2, 1), (27, .ishr, 1), (28, .i2b, 1), (29, .bastore, 1), (30, .aload_n 0, 1), (31, .dup, 1), (32, .getfield 15, 3), (35, .iconst 1, 1), (36, .iadd, 1), (37, .putfield 15, 3), (40, .iinc 2 (-8), 3), (43, .goto (-40), 3), (46, .return_, 1)]
theorem tX9_hold : Tb mX9_hold.2.1 lX9_hold := Tb.of (by decide +kernel)
def lX9_scan : List (Nat × Instr × Nat) := [(0, .iload_n 1, 1), (1, .aload_n 0, 1), (2, .getfield 15, 3), (5, .invokestatic 32, 3), (8, .istore_n 2, 1), (9, .iconst 0, 1), (10, .istore_n 3, 1), (11, .aload_n 0, 1), (12, .iconst 0, 1), (13, .putfield 29, 3), (16, .iconst 0, 1), (17, .istore 4, 2), (19, .iload 4, 2), (21, .sipush 600, 3), (24, .if_icmp .ge 38, 3), (27, .iload_n 3, 1), (28, .iload_n 2, 1), (29, .if_icmp .ge 33, 3), (32, .aload_n 0, 1), (33, .getfield 9, 3), (36, .iload_n 3, 1), (37, .baload, 1), (38, .bipush 32, 2), (40, .if_icmp .ne 9, 3), (43, .iinc 3 1, 3), (46, .goto 10, 3), (49, .aload_n 0, 1), (50, .iload_n 3, 1), (51, .iload_n 2, 1), (52, .invokevirtual 38, 3), (55, .istore_n 3, 1), (56, .iinc 4 1, 3), (59, .goto (-40), 3), (62, .aload_n 0, 1), (63, .sipush 256, 3), (66, .iload_n 2, 1), (67, .iconst 0, 1), (68, .invokevirtual 41, 3), (71, .return_, 1)]
theorem tX9_scan : Tb mX9_scan.2.1 lX9_scan := Tb.of (by decide +kernel)
def lX9_scanToken : List (Nat × Instr × Nat) := [(0, .aload_n 0, 1), (1, .getfield 9, 3), (4, .iload_n 1, 1), (5, .baload, 1), (6, .invokestatic 45, 3), (9, .ifCond .eq 10, 3), (12, .aload_n 0, 1), (13, .iload_n 1, 1), (14, .iload_n 2, 1), (15, .invokevirtual 49, 3), (18, .ireturn, 1), (19, .aload_n 0, 1), (20, .getfield 9, 3), (23, .iload_n 1, 1), (24, .baload, 1), (25, .invokestatic 52, 3), (28, .ifCond .eq 10, 3), (31, .aload_n 0, 1), (32, .iload_n 1, 1), (33, .iload_n 2, 1), (34, .invokevirtual 55, 3), (37, .ireturn, 1), (38, .aload_n 0, 1), (39, .aload_n 0, 1), (40, .getfield 9, 3), (43, .iload_n 1, 1), (44, .baload, 1), (45, .iload_n 1, 1), (46, .iconst 0, 1), (47, .invokevirtual 41, 3), (50, .iload_n 1, 1), (51, .iconst 1, 1), (52, .iadd, 1), (53, .ireturn, 1)]
theorem tX9_scanToken : Tb mX9_scanToken.2.1 lX9_scanToken := Tb.of (by decide +kernel)
def lX9_scanNumber : List (Nat × Instr × Nat) := [(0, .iconst 0, 1), (1, .istore_n 3, 1), (2, .iload_n 1, 1), (3, .istore 4, 2), (5, .iload 4, 2), (7, .iload_n 2, 1), (8, .if_icmp .ge 44, 3), (11, .aload_n 0, 1), (12, .getfield 9, 3), (15, .iload 4, 2), (17, .baload, 1), (18, .invokestatic 45, 3), (21, .ifCond .eq 31, 3), (24, .sipush 10000, 3), (27, .iload_n 3, 1), (28, .bipush 10, 2), (30, .imul, 1), (31, .aload_n 0, 1), (32, .getfield 9, 3), (35, .iload 4, 2), (37, .baload, 1), (38, .iadd, 1), (39, .bipush 48, 2), (41, .isub, 1), (42, .invokestatic 32, 3), (45, .istore_n 3, 1), (46, .iinc 4 1, 3), (49, .goto (-44), 3), (52, .aload_n 0, 1), (53, .sipush 257, 3), (56, .iload_n 1, 1), (57, .iload_n 3, 1), (58, .invokevirtual 41, 3), (61, .iload 4, 2), (63, .ireturn, 1)]
theorem tX9_scanNumber : Tb mX9_scanNumber.2.1 lX9_scanNumber := Tb.of (by decide +kernel)
def lX9_scanWord : List (Nat × Instr × Nat) := [(0, .iload_n 1, 1), (1, .istore_n 3, 1), (2, .iload_n 3, 1), (3, .iload_n 2, 1), (4, .if_icmp .ge 21, 3), (7, .aload_n 0, 1), (8, .getfield 9, 3), (11, .iload_n 3, 1), (12, .baload, 1), (13, .invokestatic 52, 3), (16, .ifCond .eq 9, 3), (19, .iinc 3 1, 3), (22, .goto (-20), 3), (25, .aload_n 0, 1), (26, .aload_n 0, 1), (27, .iload_n 1, 1), (28, .iload_n 3, 1), (29, .invokevirtual 58, 3), (32, .iload_n 1, 1), (33, .iconst 0, 1), (34, .invokevirtual 41, 3), (37, .iload_n 3, 1), (38, .ireturn, 1)]
theorem tX9_scanWord : Tb mX9_scanWord.2.1 lX9_scanWord := Tb.of (by decide +kernel)
def lX9_kindOfWord : List (Nat × Instr × Nat) := [(0, .aload_n 0, 1), (1, .ldc 61, 2), (3, .iload_n 1, 1), (4, .iload_n 2, 1), (5, .invokevirtual 63, 3), (8, .ifCond .eq 7, 3), (11, .sipush 258, 3), (14, .ireturn, 1), (15, .aload_n 0, 1), (16, .ldc 67, 2), (18, .iload_n 1, 1), (19, .iload_n 2, 1), (20, .invokevirtual 63, 3), (23, .ifCond .eq 7, 3), (26, .sipush 259, 3), (29, .ireturn, 1), (30, .aload_n 0, 1), (31, .ldc 69, 2), (33, .iload_n 1, 1), (34, .iload_n 2, 1), (35, .invokevirtual 63, 3), (38, .ifCond .eq 7, 3), (41, .sipush 260, 3), (44, .ireturn, 1), (45, .aload_n 0, 1), (46, .ldc 71, 2), (48, .iload_n 1, 1), (49, .iload_n 2, 1), (50, .invokevirtual 63, 3), (53, .ifCond .eq 7, 3), (56, .sipush 261, 3), (59, .ireturn, 1), (60, .aload_n 0, 1), (61, .ldc 73, 2), (63, .iload_n 1, 1), (64, .iload_n 2, 1), (65, .invokevirtual 63, 3), (68, .ifCond .eq 7, 3), (71, .sipush 262, 3), (74, .ireturn, 1), (75, .aload_n 0, 1), (76, .ldc 75, 2), (78, .iload_n 1, 1), (79, .iload_n 2, 1), (80, .invokevirtual 63, 3), (83, .ifCond .eq 7, 3), (86, .sipush 263, 3), (89, .ireturn, 1), (90, .aload_n 0, 1), (91, .ldc 77, 2), (93, .iload_n 1, 1), (94, .iload_n 2, 1), (95, .invokevirtual 63, 3), (98, .ifCond .eq 7, 3), (101, .sipush 264, 3), (104, .ireturn, 1), (105, .aload_n 0, 1), (106, .ldc 79, 2), (108, .iload_n 1, 1), (109, .iload_n 2, 1), (110, .invokevirtual 63, 3), (113, .ifCond .eq 9, 3), (116, .sipush 265, 3), (119, .goto 6, 3), (122, .sipush 266, 3), (125, .ireturn, 1)]
theorem tX9_kindOfWord : Tb mX9_kindOfWord.2.1 lX9_kindOfWord := Tb.of (by decide +kernel)
def lX9_isWord : List (Nat × Instr × Nat) := [(0, .iload_n 3, 1), (1, .iload_n 2, 1), (2, .isub, 1), (3, .aload_n 1, 1), (4, .invokevirtual 81, 3), (7, .if_icmp .eq 5, 3), (10, .iconst 0, 1), (11, .ireturn, 1), (12, .iconst 0, 1), (13, .istore 4, 2), (15, .iload 4, 2), (17, .aload_n 1, 1), (18, .invokevirtual 81, 3), (21, .if_icmp .ge 29, 3), (24, .aload_n 0, 1), (25, .getfield 9, 3), (28, .iload_n 2, 1), (29, .iload 4, 2), (31, .iadd, 1), (32, .baload, 1), (33, .aload_n 1, 1), (34, .iload 4, 2), (36, .invokevirtual 87, 3), (39, .if_icmp .eq 5, 3), (42, .iconst 0, 1), (43, .ireturn, 1), (44, .iinc 4 1, 3), (47, .goto (-32), 3), (50, .iconst 1, 1), (51, .ireturn, 1)]
theorem tX9_isWord : Tb mX9_isWord.2.1 lX9_isWord := Tb.of (by decide +kernel)
def lX9_put : List (Nat × Instr × Nat) := [(0, .aload_n 0, 1), (1, .getfield 29, 3), (4, .aload_n 0, 1), (5, .getfield 19, 3), (8, .arraylength, 1), (9, .if_icmp .ge 43, 3), (12, .aload_n 0, 1), (13, .getfield 19, 3), (16, .aload_n 0, 1), (17, .getfield 29, 3), (20, .iload_n 1, 1), (21, .iastore, 1), (22, .aload_n 0, 1), (23, .getfield 23, 3), (26, .aload_n 0, 1), (27, .getfield 29, 3), (30, .iload_n 2, 1), (31, .iastore, 1), (32, .aload_n 0, 1), (33, .getfield 26, 3), (36, .aload_n 0, 1), (37, .getfield 29, 3), (40, .iload_n 3, 1), (41, .iastore, 1), (42, .aload_n 0, 1), (43, .dup, 1), (44, .getfield 29, 3), (47, .iconst 1, 1), (48, .iadd, 1), (49, .putfield 29, 3), (52, .return_, 1)]
theorem tX9_put : Tb mX9_put.2.1 lX9_put := Tb.of (by decide +kernel)
def lX9_isDigit : List (Nat × Instr × Nat) := [(0, .iload_n 0, 1), (1, .bipush 48, 2), (3, .if_icmp .lt 13, 3), (6, .iload_n 0, 1), (7, .bipush 57, 2), (9, .if_icmp .gt 7, 3), (12, .iconst 1, 1), (13, .goto 4, 3), (16, .iconst 0, 1), (17, .ireturn, 1)]
theorem tX9_isDigit : Tb mX9_isDigit.2.1 lX9_isDigit := Tb.of (by decide +kernel)
def lX9_isLetter : List (Nat × Instr × Nat) := [(0, .iload_n 0, 1), (1, .bipush 97, 2), (3, .if_icmp .lt 13, 3), (6, .iload_n 0, 1), (7, .bipush 122, 2), (9, .if_icmp .gt 7, 3), (12, .iconst 1, 1), (13, .goto 4, 3), (16, .iconst 0, 1), (17, .ireturn, 1)]
theorem tX9_isLetter : Tb mX9_isLetter.2.1 lX9_isLetter := Tb.of (by decide +kernel)
def lX10_init : List (Nat × Instr × Nat) := [(0, .aload_n 0, 1), (1, .invokespecial 1, 3), (4, .aload_n 0, 1), (5, .iconst (-1), 1), (6, .putfield 7, 3), (9, .aload_n 0, 1), (10, .new 13, 3), (13, .dup, 1), (14, .invokespecial 15, 3), (17, .putfield 16, 3), (20, .aload_n 0, 1), (21, .new 20, 3), (24, .dup, 1), (25, .invokespecial 22, 3), (28, .putfield 23, 3), (31, .aload_n 0, 1), (32, .new 27, 3), (35, .dup, 1), (36, .invokespecial 29, 3), (39, .putfield 30, 3), (42, .aload_n 0, 1), (43, .new 34, 3), (46, .dup, 1), (47, .invokespecial 36, 3), (50, .putfield 37, 3), (53, .aload_n 0, 1), (54, .new 41, 3), (57, .dup, 1), (58, .invokespecial 43, 3), (61, .putfield 44, 3), (64, .aload_n 0, 1), (65, .new 48, 3), (68, .dup, 1), (69, .invokespecial 50, 3), (72, .putfield 51, 3), (75, .aload_n 0, 1), (76, .new 55, 3), (79, .dup, 1), (80, .invokespecial 57, 3), (83, .putfield 58, 3), (86, .aload_n 0, 1), (87, .new 55, 3), (90, .dup, 1), (91, .invokespecial 57, 3), (94, .putfield 62, 3), (97, .aload_n 0, 1), (98, .bipush 6, 2), (100, .newarray .long, 2), (102, .putfield 65, 3), (105, .aload_n 0, 1), (106, .new 69, 3), (109, .dup, 1), (110, .invokespecial 71, 3), (113, .putfield 72, 3), (116, .aload_n 0, 1), (117, .new 76, 3), (120, .dup, 1), (121, .invokespecial 78, 3), (124, .putfield 79, 3), (127, .return_, 1)]
theorem tX10_init : Tb mX10_init.2.1 lX10_init := Tb.of (by decide +kernel)
def lX10_append : List (Nat × Instr × Nat) := [(0, .aload_n 0, 1), (1, .getfield 30, 3), (4, .getfield 83, 3), (7, .astore 6, 2), (9, .aload 6, 2), (11, .getfield 87, 3), (14, .sipush 580, 3), (17, .if_icmp .le 5, 3), (20, .iconst (-1), 1), (21, .ireturn, 1), (22, .aload 6, 2), (24, .iload_n 1, 1), (25, .invokevirtual 92, 3), (28, .aload 6, 2), (30, .iload_n 2, 1), (31, .invokevirtual 92, 3), (34, .aload 6, 2), (36, .iload_n 3, 1), (37, .invokevirtual 92, 3), (40, .aload 6, 2), (42, .iload 4, 2), (44, .invokevirtual 92, 3), (47, .aload 6, 2), (49, .iload 5, 2), (51, .invokevirtual 92, 3), (54, .aload 6, 2), (56, .getfield 87, 3), (59, .ireturn, 1)]
theorem tX10_append : Tb mX10_append.2.1 lX10_append := Tb.of (by decide +kernel)
def lX10_load : List (Nat × Instr × Nat) := [(0, .aload_n 0, 1), (1, .getfield 30, 3), (4, .getfield 83, 3), (7, .astore_n 2, 1), (8, .iload_n 1, 1), (9, .ifCond .lt 11, 3), (12, .iload_n 1, 1), (13, .aload_n 2, 1), (14, .getfield 87, 3), (17, .if_icmp .le 13, 3), (20, .new 96, 3), (23, .dup, 1), (24, .ldc 98, 2), (26, .invokespecial 100, 3), (29, .athrow, 1), (30, .aload_n 2, 1), (31, .iload_n 1, 1), (32, .invokevirtual 103, 3), (35, .aload_n 2, 1), (36, .iconst 0, 1), (37, .putfield 87, 3), (40, .aload_n 0, 1), (41, .getfield 30, 3), (44, .invokevirtual 106, 3), (47, .ifCond .ne 22, 3), (50, .aload_n 0, 1), (51, .aload_n 0, 1), (52, .getfield 30, 3), (55, .getfield 110, 3), (58, .putfield 7, 3), (61, .aload_n 0, 1), (62, .getfield 30, 3), (65, .getfield 111, 3), (68, .ireturn, 1), (69, .aload_n 0, 1), (70, .iconst (-1), 1), (71, .putfield 7, 3), (74, .aload_n 0, 1), (75, .getfield 23, 3), (78, .aload_n 0, 1), (79, .getfield 16, 3), (82, .invokevirtual 114, 3), (85, .aload_n 0, 1), (86, .getfield 16, 3), (89, .aload_n 0, 1), (90, .getfield 30, 3), (93, .getfield 118, 3), (96, .invokevirtual 121, 3), (99, .aload_n 0, 1), (100, .getfield 16, 3), (103, .getfield 124, 3), (106, .ireturn, 1)]
theorem tX10_load : Tb mX10_load.2.1 lX10_load := Tb.of (by decide +kernel)
def lX10_degree : List (Nat × Instr × Nat) := [(0, .aload_n 0, 1), (1, .iload_n 1, 1), (2, .invokevirtual 150, 3), (5, .aload_n 0, 1), (6, .getfield 16, 3), (9, .iload_n 1, 1), (10, .invokevirtual 153, 3), (13, .ireturn, 1)]
theorem tX10_degree : Tb mX10_degree.2.1 lX10_degree := Tb.of (by decide +kernel)
def lX10_hittingTime : List (Nat × Instr × Nat) := [(0, .aload_n 0, 1), (1, .iload_n 1, 1), (2, .invokevirtual 150, 3), (5, .aload_n 0, 1), (6, .iload_n 2, 1), (7, .invokevirtual 150, 3), (10, .aload_n 0, 1), (11, .iload_n 1, 1), (12, .iload_n 2, 1), (13, .invokevirtual 168, 3), (16, .aload_n 0, 1), (17, .invokevirtual 172, 3), (20, .aload_n 0, 1), (21, .getfield 51, 3), (24, .aload_n 0, 1), (25, .getfield 16, 3), (28, .iload_n 1, 1), (29, .iload_n 2, 1), (30, .aload_n 0, 1), (31, .getfield 65, 3), (34, .aload_n 0, 1), (35, .getfield 58, 3), (38, .invokevirtual 175, 3), (41, .aload_n 0, 1), (42, .getfield 58, 3), (45, .iload_n 3, 1), (46, .invokevirtual 164, 3), (49, .lreturn, 1)]
theorem tX10_hittingTime : Tb mX10_hittingTime.2.1 lX10_hittingTime := Tb.of (by decide +kernel)
def lX10_hittingCost : List (Nat × Instr × Nat) := [(0, .aload_n 0, 1), (1, .iload_n 1, 1), (2, .invokevirtual 150, 3), (5, .aload_n 0, 1), (6, .iload_n 2, 1), (7, .invokevirtual 150, 3), (10, .aload_n 0, 1), (11, .iload_n 1, 1), (12, .iload_n 2, 1), (13, .invokevirtual 168, 3), (16, .aload_n 0, 1), (17, .invokevirtual 179, 3), (20, .aload_n 0, 1), (21, .getfield 51, 3), (24, .aload_n 0, 1), (25, .getfield 16, 3), (28, .iload_n 1, 1), (29, .iload_n 2, 1), (30, .aload_n 0, 1), (31, .getfield 65, 3), (34, .aload_n 0, 1), (35, .getfield 58, 3), (38, .invokevirtual 175, 3), (41, .aload_n 0, 1), (42, .getfield 58, 3), (45, .iload_n 3, 1), (46, .invokevirtual 164, 3), (49, .lreturn, 1)]
theorem tX10_hittingCost : Tb mX10_hittingCost.2.1 lX10_hittingCost := Tb.of (by decide +kernel)
def lX10_trees : List (Nat × Instr × Nat) := [(0, .aload_n 0, 1), (1, .invokevirtual 193, 3), (4, .lreturn, 1)]
theorem tX10_trees : Tb mX10_trees.2.1 lX10_trees := Tb.of (by decide +kernel)
def lX10_absorbing : List (Nat × Instr × Nat) := [(0, .aload_n 0, 1), (1, .getfield 16, 3), (4, .getfield 197, 3), (7, .ireturn, 1)]
theorem tX10_absorbing : Tb mX10_absorbing.2.1 lX10_absorbing := Tb.of (by decide +kernel)
def lX10_absorption : List (Nat × Instr × Nat) := [(0, .aload_n 0, 1), (1, .iload_n 1, 1), (2, .invokevirtual 150, 3), (5, .aload_n 0, 1), (6, .iload_n 2, 1), (7, .invokevirtual 150, 3), (10, .aload_n 0, 1), (11, .getfield 16, 3), (14, .iload_n 2, 1), (15, .invokevirtual 200, 3), (18, .ifCond .ne 13, 3), (21, .new 96, 3), (24, .dup, 1), (25, .ldc 204, 2), (27, .invokespecial 100, 3), (30, .athrow, 1), (31, .aload_n 0, 1), (32, .iload_n 1, 1), (33, .invokevirtual 206, 3), (36, .aload_n 0, 1), (37, .iload_n 1, 1), (38, .iload_n 2, 1), (39, .invokevirtual 209, 3), (42, .aload_n 0, 1), (43, .getfield 58, 3), (46, .iload_n 3, 1), (47, .invokevirtual 164, 3), (50, .lreturn, 1)]
theorem tX10_absorption : Tb mX10_absorption.2.1 lX10_absorption := Tb.of (by decide +kernel)
def lX10_after : List (Nat × Instr × Nat) := [(0, .aload_n 0, 1), (1, .iload_n 1, 1), (2, .invokevirtual 150, 3), (5, .aload_n 0, 1), (6, .iload_n 2, 1), (7, .invokevirtual 150, 3), (10, .iload_n 3, 1), (11, .ifCond .lt 9, 3), (14, .iload_n 3, 1), (15, .bipush 100, 2), (17, .if_icmp .le 14, 3), (20, .new 96, 3), (23, .dup, 1), (24, .ldc_w 256, 3), (27, .invokespecial 100, 3), (30, .athrow, 1), (31, .aload_n 0, 1), (32, .getfield 79, 3), (35, .aload_n 0, 1), (36, .getfield 16, 3), (39, .iload_n 1, 1), (40, .iload_n 2, 1), (41, .iload_n 3, 1), (42, .invokevirtual 258, 3), (45, .freturn, 1)]
theorem tX10_after : Tb mX10_after.2.1 lX10_after := Tb.of (by decide +kernel)
def lX10_walk : List (Nat × Instr × Nat) := [(0, .aload_n 0, 1), (1, .iload_n 1, 1), (2, .invokevirtual 150, 3), (5, .iload_n 2, 1), (6, .ifCond .lt 10, 3), (9, .iload_n 2, 1), (10, .sipush 1000, 3), (13, .if_icmp .le 14, 3), (16, .new 96, 3), (19, .dup, 1), (20, .ldc_w 262, 3), (23, .invokespecial 100, 3), (26, .athrow, 1), (27, .iload_n 3, 1), (28, .ifCond .ge 14, 3), (31, .new 96, 3), (34, .dup, 1), (35, .ldc_w 264, 3), (38, .invokespecial 100, 3), (41, .athrow, 1), (42, .iload 4, 2), (44, .ifCond .lt 9, 3), (47, .iload 4, 2), (49, .iconst 3, 1), (50, .if_icmp .le 14, 3), (53, .new 96, 3), (56, .dup, 1), (57, .ldc_w 266, 3), (60, .invokespecial 100, 3), (63, .athrow, 1), (64, .aload_n 0, 1), (65, .getfield 37, 3), (68, .aload_n 0, 1), (69, .getfield 16, 3), (72, .invokevirtual 268, 3), (75, .aload_n 0, 1), (76, .getfield 72, 3), (79, .aload_n 0, 1), (80, .getfield 16, 3), (83, .aload_n 0, 1), (84, .getfield 37, 3), (87, .iload_n 1, 1), (88, .iload_n 2, 1), (89, .iload_n 3, 1), (90, .invokevirtual 271, 3), (93, .aload_n 0, 1), (94, .getfield 72, 3), (97, .iload 4, 2), (99, .invokevirtual 275, 3), (102, .ireturn, 1)]
theorem tX10_walk : Tb mX10_walk.2.1 lX10_walk := Tb.of (by decide +kernel)
def lX10_requireVertex : List (Nat × Instr × Nat) := [(0, .iload_n 1, 1), (1, .ifCond .lt 14, 3), (4, .iload_n 1, 1), (5, .aload_n 0, 1), (6, .getfield 16, 3), (9, .getfield 127, 3), (12, .if_icmp .lt 14, 3), (15, .new 309, 3), (18, .dup, 1), (19, .ldc_w 311, 3), (22, .invokespecial 313, 3), (25, .athrow, 1), (26, .return_, 1)]
theorem tX10_requireVertex : Tb mX10_requireVertex.2.1 lX10_requireVertex := Tb.of (by decide +kernel)
def lX10_requireWay : List (Nat × Instr × Nat) := [(0, .aload_n 0, 1), (1, .getfield 16, 3), (4, .iload_n 1, 1), (5, .iload_n 2, 1), (6, .invokevirtual 244, 3), (9, .ifCond .ne 14, 3), (12, .new 248, 3), (15, .dup, 1), (16, .ldc_w 320, 3), (19, .invokespecial 252, 3), (22, .athrow, 1), (23, .return_, 1)]
theorem tX10_requireWay : Tb mX10_requireWay.2.1 lX10_requireWay := Tb.of (by decide +kernel)
def lX10_requireAbsorbingWay : List (Nat × Instr × Nat) := [(0, .aload_n 0, 1), (1, .getfield 16, 3), (4, .iload_n 1, 1), (5, .invokevirtual 157, 3), (8, .aload_n 0, 1), (9, .getfield 16, 3), (12, .getfield 197, 3), (15, .iand, 1), (16, .ifCond .ne 14, 3), (19, .new 248, 3), (22, .dup, 1), (23, .ldc_w 322, 3), (26, .invokespecial 252, 3), (29, .athrow, 1), (30, .return_, 1)]
theorem tX10_requireAbsorbingWay : Tb mX10_requireAbsorbingWay.2.1 lX10_requireAbsorbingWay := Tb.of (by decide +kernel)
def lX10_gainSteps : List (Nat × Instr × Nat) := [(0, .iconst 0, 1), (1, .istore_n 1, 1), (2, .iload_n 1, 1), (3, .aload_n 0, 1), (4, .getfield 16, 3), (7, .getfield 127, 3), (10, .if_icmp .ge 24, 3), (13, .aload_n 0, 1), (14, .getfield 65, 3), (17, .iload_n 1, 1), (18, .aload_n 0, 1), (19, .getfield 16, 3), (22, .iload_n 1, 1), (23, .invokevirtual 153, 3), (26, .i2l, 1), (27, .lastore, 1), (28, .iinc 1 1, 3), (31, .goto (-29), 3), (34, .return_, 1)]
theorem tX10_gainSteps : Tb mX10_gainSteps.2.1 lX10_gainSteps := Tb.of (by decide +kernel)
def lX10_gainCosts : List (Nat × Instr × Nat) := [(0, .aload_n 0, 1), (1, .getfield 37, 3), (4, .aload_n 0, 1), (5, .getfield 16, 3), (8, .invokevirtual 268, 3), (11, .iconst 0, 1), (12, .istore_n 1, 1), (13, .iload_n 1, 1), (14, .aload_n 0, 1), (15, .getfield 16, 3), (18, .getfield 127, 3), (21, .if_icmp .ge 65, 3), (24, .lconst 0, 1), (25, .lstore_n 2, 1), (26, .iconst 0, 1), (27, .istore 4, 2), (29, .iload 4, 2), (31, .aload_n 0, 1), (32, .getfield 16, 3), (35, .getfield 127, 3), (38, .if_icmp .ge 35, 3), (41, .lload_n 2, 1), (42, .aload_n 0, 1), (43, .getfield 16, 3), (46, .iload_n 1, 1), (47, .iload 4, 2), (49, .invokevirtual 142, 3), (52, .i2l, 1), (53, .aload_n 0, 1), (54, .getfield 37, 3), (57, .iload_n 1, 1), (58, .iload 4, 2), (60, .invokevirtual 326, 3), (63, .i2l, 1), (64, .lmul, 1), (65, .ladd, 1), (66, .lstore_n 2, 1), (67, .iinc 4 1, 3), (70, .goto (-41), 3), (73, .aload_n 0, 1), (74, .getfield 65, 3), (77, .iload_n 1, 1), (78, .lload_n 2, 1), (79, .lastore, 1), (80, .iinc 1 1, 3), (83, .goto (-70), 3), (86, .return_, 1)]
theorem tX10_gainCosts : Tb mX10_gainCosts.2.1 lX10_gainCosts := Tb.of (by decide +kernel)
def lX10_findAbsorption : List (Nat × Instr × Nat) := [(0, .aload_n 0, 1), (1, .getfield 16, 3), (4, .iload_n 1, 1), (5, .invokevirtual 200, 3), (8, .ifCond .eq 22, 3), (11, .aload_n 0, 1), (12, .getfield 58, 3), (15, .iload_n 1, 1), (16, .iload_n 2, 1), (17, .if_icmp .ne 7, 3), (20, .lconst 1, 1), (21, .goto 4, 3), (24, .lconst 0, 1), (25, .lconst 1, 1), (26, .invokevirtual 212, 3), (29, .return_, 1), (30, .iconst 0, 1), (31, .istore_n 3, 1), (32, .iload_n 3, 1), (33, .aload_n 0, 1), (34, .getfield 16, 3), (37, .getfield 127, 3), (40, .if_icmp .ge 25, 3), (43, .aload_n 0, 1), (44, .getfield 65, 3), (47, .iload_n 3, 1), (48, .aload_n 0, 1), (49, .getfield 16, 3), (52, .iload_n 3, 1), (53, .iload_n 2, 1), (54, .invokevirtual 142, 3), (57, .i2l, 1), (58, .lastore, 1), (59, .iinc 3 1, 3), (62, .goto (-30), 3), (65, .aload_n 0, 1), (66, .getfield 51, 3), (69, .aload_n 0, 1), (70, .getfield 16, 3), (73, .aload_n 0, 1), (74, .getfield 16, 3), (77, .iload_n 1, 1), (78, .invokevirtual 157, 3), (81, .aload_n 0, 1), (82, .getfield 16, 3), (85, .getfield 197, 3), (88, .iconst (-1), 1), (89, .ixor, 1), (90, .iand, 1), (91, .iload_n 1, 1), (92, .aload_n 0, 1), (93, .getfield 65, 3), (96, .aload_n 0, 1), (97, .getfield 58, 3), (100, .invokevirtual 216, 3), (103, .return_, 1)]
theorem tX10_findAbsorption : Tb mX10_findAbsorption.2.1 lX10_findAbsorption := Tb.of (by decide +kernel)
def lX10_countTrees : List (Nat × Instr × Nat) := [(0, .aload_n 0, 1), (1, .getfield 16, 3), (4, .getfield 127, 3), (7, .iconst 2, 1), (8, .if_icmp .ge 5, 3), (11, .lconst 0, 1), (12, .lreturn, 1), (13, .aload_n 0, 1), (14, .getfield 51, 3), (17, .aload_n 0, 1), (18, .getfield 16, 3), (21, .invokevirtual 333, 3), (24, .lreturn, 1)]
theorem tX10_countTrees : Tb mX10_countTrees.2.1 lX10_countTrees := Tb.of (by decide +kernel)
def lJ5_init_d00df : List (Nat × Instr × Nat) := [(0, .aload_n 0, 1), (1, .invokespecial 3, 3), (4, .getstatic 18, 3), (7, .ifCond .eq 18, 3), (10, .aload_n 0, 1), (11, .iload_n 1, 1), (12, .newarray .byte, 2), (14, .putfield 15, 3), (17, .aload_n 0, 1), (18, .iconst 0, 1), (19, .putfield 22, 3), (22, .goto 16, 3), (25, .aload_n 0, 1), (26, .iload_n 1, 1), (27, .invokestatic 26, 3), (30, .putfield 15, 3), (33, .aload_n 0, 1), (34, .iconst 1, 1), (35, .putfield 22, 3), (38, .return_, 1)]
theorem tJ5_init_d00df : Tb mJ5_init_d00df.2.1 lJ5_init_d00df := Tb.of (by decide +kernel)
def lJ5_init_a7421 : List (Nat × Instr × Nat) := [(0, .aload_n 0, 1), (1, .invokespecial 3, 3), (4, .aload_n 1, 1), (5, .invokevirtual 32, 3), (8, .istore_n 2, 1), (9, .iload_n 2, 1), (10, .ldc 38, 2), (12, .if_icmp .ge 10, 3), (15, .iload_n 2, 1), (16, .bipush 16, 2), (18, .iadd, 1), (19, .goto 5, 3), (22, .ldc 39, 2), (24, .istore_n 3, 1), (25, .aload_n 1, 1), (26, .invokevirtual 40, 3), (29, .istore 4, 2), (31, .aload_n 0, 1), (32, .iload 4, 2), (34, .putfield 22, 3), (37, .aload_n 0, 1), (38, .iload 4, 2), (40, .ifCond .ne 9, 3), (43, .iload_n 3, 1), (44, .newarray .byte, 2), (46, .goto 7, 3), (49, .iload_n 3, 1), (50, .invokestatic 26, 3), (53, .putfield 15, 3), (56, .aload_n 0, 1), (57, .aload_n 1, 1), (58, .invokevirtual 43, 3), (61, .pop, 1), (62, .return_, 1)]
theorem tJ5_init_a7421 : Tb mJ5_init_a7421.2.1 lJ5_init_a7421 := Tb.of (by decide +kernel)
def lJ5_length_8abf5 : List (Nat × Instr × Nat) := [(0, .aload_n 0, 1), (1, .getfield 79, 3), (4, .ireturn, 1)]
theorem tJ5_length_8abf5 : Tb mJ5_length_8abf5.2.1 lJ5_length_8abf5 := Tb.of (by decide +kernel)
def lJ5_ensureCapacityInternal_d00df : List (Nat × Instr × Nat) := [(0, .aload_n 0, 1), (1, .getfield 15, 3), (4, .arraylength, 1), (5, .aload_n 0, 1), (6, .getfield 22, 3), (9, .ishr, 1), (10, .istore_n 2, 1), (11, .iload_n 1, 1), (12, .iload_n 2, 1), (13, .isub, 1), (14, .ifCond .le 24, 3), (17, .aload_n 0, 1), (18, .aload_n 0, 1), (19, .getfield 15, 3), (22, .aload_n 0, 1), (23, .iload_n 1, 1), (24, .invokevirtual 104, 3), (27, .aload_n 0, 1), (28, .getfield 22, 3), (31, .ishl, 1), (32, .invokestatic 108, 3), (35, .putfield 15, 3), (38, .return_, 1)]
theorem tJ5_ensureCapacityInternal_d00df : Tb mJ5_ensureCapacityInternal_d00df.2.1 lJ5_ensureCapacityInternal_d00df := Tb.of (by decide +kernel)
def lJ5_newCapacity_0f7a4 : List (Nat × Instr × Nat) := [(0, .aload_n 0, 1), (1, .getfield 15, 3), (4, .arraylength, 1), (5, .istore_n 2, 1), (6, .iload_n 1, 1), (7, .aload_n 0, 1), (8, .getfield 22, 3), (11, .ishl, 1), (12, .istore_n 3, 1), (13, .iload_n 3, 1), (14, .iload_n 2, 1), (15, .isub, 1), (16, .istore 4, 2), (18, .iload_n 2, 1), (19, .iload 4, 2), (21, .iload_n 2, 1), (22, .iconst 2, 1), (23, .aload_n 0, 1), (24, .getfield 22, 3), (27, .ishl, 1), (28, .iadd, 1), (29, .invokestatic 114, 3), (32, .istore 5, 2), (34, .iload 5, 2), (36, .ldc 39, 2), (38, .if_icmp .ne 13, 3), (41, .new 120, 3), (44, .dup, 1), (45, .ldc 122, 2), (47, .invokespecial 124, 3), (50, .athrow, 1), (51, .iload 5, 2), (53, .aload_n 0, 1), (54, .getfield 22, 3), (57, .ishr, 1), (58, .ireturn, 1)]
theorem tJ5_newCapacity_0f7a4 : Tb mJ5_newCapacity_0f7a4.2.1 lJ5_newCapacity_0f7a4 := Tb.of (by decide +kernel)
def lJ5_inflate_da8c8 : List (Nat × Instr × Nat) := [(0, .aload_n 0, 1), (1, .invokevirtual 83, 3), (4, .ifCond .ne 4, 3), (7, .return_, 1), (8, .aload_n 0, 1), (9, .getfield 15, 3), (12, .arraylength, 1), (13, .invokestatic 26, 3), (16, .astore_n 1, 1), (17, .aload_n 0, 1), (18, .getfield 15, 3), (21, .iconst 0, 1), (22, .aload_n 1, 1), (23, .iconst 0, 1), (24, .aload_n 0, 1), (25, .getfield 79, 3), (28, .invokestatic 125, 3), (31, .aload_n 0, 1), (32, .aload_n 1, 1), (33, .putfield 15, 3), (36, .aload_n 0, 1), (37, .iconst 1, 1), (38, .putfield 22, 3), (41, .return_, 1)]
theorem tJ5_inflate_da8c8 : Tb mJ5_inflate_da8c8.2.1 lJ5_inflate_da8c8 := Tb.of (by decide +kernel)
def lJ5_append_cf1ce : List (Nat × Instr × Nat) := [(0, .aload_n 1, 1), (1, .ifnonnull 8, 3), (4, .aload_n 0, 1), (5, .invokevirtual 204, 3), (8, .areturn, 1), (9, .aload_n 1, 1), (10, .invokevirtual 32, 3), (13, .istore_n 2, 1), (14, .aload_n 0, 1), (15, .aload_n 0, 1), (16, .getfield 79, 3), (19, .iload_n 2, 1), (20, .iadd, 1), (21, .invokevirtual 100, 3), (24, .aload_n 0, 1), (25, .aload_n 0, 1), (26, .getfield 79, 3), (29, .aload_n 1, 1), (30, .invokevirtual 208, 3), (33, .aload_n 0, 1), (34, .dup, 1), (35, .getfield 79, 3), (38, .iload_n 2, 1), (39, .iadd, 1), (40, .putfield 79, 3), (43, .aload_n 0, 1), (44, .areturn, 1)]
theorem tJ5_append_cf1ce : Tb mJ5_append_cf1ce.2.1 lJ5_append_cf1ce := Tb.of (by decide +kernel)
def lJ5_appendNull_278bc : List (Nat × Instr × Nat) := [(0, .aload_n 0, 1), (1, .aload_n 0, 1), (2, .getfield 79, 3), (5, .iconst 4, 1), (6, .iadd, 1), (7, .invokevirtual 100, 3), (10, .aload_n 0, 1), (11, .getfield 79, 3), (14, .istore_n 1, 1), (15, .aload_n 0, 1), (16, .getfield 15, 3), (19, .astore_n 2, 1), (20, .aload_n 0, 1), (21, .invokevirtual 83, 3), (24, .ifCond .eq 38, 3), (27, .aload_n 2, 1), (28, .iload_n 1, 1), (29, .iinc 1 1, 3), (32, .bipush 110, 2), (34, .bastore, 1), (35, .aload_n 2, 1), (36, .iload_n 1, 1), (37, .iinc 1 1, 3), (40, .bipush 117, 2), (42, .bastore, 1), (43, .aload_n 2, 1), (44, .iload_n 1, 1), (45, .iinc 1 1, 3), (48, .bipush 108, 2), (50, .bastore, 1), (51, .aload_n 2, 1), (52, .iload_n 1, 1), (53, .iinc 1 1, 3), (56, .bipush 108, 2), (58, .bastore, 1), (59, .goto 17, 3), (62, .aload_n 2, 1), (63, .iload_n 1, 1), (64, .bipush 110, 2), (66, .bipush 117, 2), (68, .bipush 108, 2), (70, .bipush 108, 2), (72, .invokestatic 226, 3), (75, .istore_n 1, 1), (76, .aload_n 0, 1), (77, .iload_n 1, 1), (78, .putfield 79, 3), (81, .aload_n 0, 1), (82, .areturn, 1)]
theorem tJ5_appendNull_278bc : Tb mJ5_appendNull_278bc.2.1 lJ5_appendNull_278bc := Tb.of (by decide +kernel)
def lJ5_append_3fe6f : List (Nat × Instr × Nat) := [(0, .aload_n 0, 1), (1, .aload_n 0, 1), (2, .getfield 79, 3), (5, .iconst 1, 1), (6, .iadd, 1), (7, .invokevirtual 100, 3), (10, .aload_n 0, 1), (11, .invokevirtual 83, 3), (14, .ifCond .eq 31, 3), (17, .iload_n 1, 1), (18, .invokestatic 191, 3), (21, .ifCond .eq 24, 3), (24, .aload_n 0, 1), (25, .getfield 15, 3), (28, .aload_n 0, 1), (29, .dup, 1), (30, .getfield 79, 3), (33, .dup_x1, 1), (34, .iconst 1, 1), (35, .iadd, 1), (36, .putfield 79, 3), (39, .iload_n 1, 1), (40, .i2b, 1), (41, .bastore, 1), (42, .goto 33, 3), (45, .aload_n 0, 1), (46, .invokevirtual 83, 3), (49, .ifCond .eq 7, 3), (52, .aload_n 0, 1), (53, .invokevirtual 195, 3), (56, .aload_n 0, 1), (57, .getfield 15, 3), (60, .aload_n 0, 1), (61, .dup, 1), (62, .getfield 79, 3), (65, .dup_x1, 1), (66, .iconst 1, 1), (67, .iadd, 1), (68, .putfield 79, 3), (71, .iload_n 1, 1), (72, .invokestatic 197, 3), (75, .aload_n 0, 1), (76, .areturn, 1)]
theorem tJ5_append_3fe6f : Tb mJ5_append_3fe6f.2.1 lJ5_append_3fe6f := Tb.of (by decide +kernel)
def lJ5_append_c97b9 : List (Nat × Instr × Nat) := [(0, .aload_n 0, 1), (1, .getfield 79, 3), (4, .istore_n 2, 1), (5, .iload_n 2, 1), (6, .iload_n 1, 1), (7, .invokestatic 245, 3), (10, .iadd, 1), (11, .istore_n 3, 1), (12, .aload_n 0, 1), (13, .iload_n 3, 1), (14, .invokevirtual 100, 3), (17, .aload_n 0, 1), (18, .invokevirtual 83, 3), (21, .ifCond .eq 16, 3), (24, .iload_n 1, 1), (25, .iload_n 3, 1), (26, .aload_n 0, 1), (27, .getfield 15, 3), (30, .invokestatic 248, 3), (33, .pop, 1), (34, .goto 14, 3), (37, .iload_n 1, 1), (38, .iload_n 2, 1), (39, .iload_n 3, 1), (40, .aload_n 0, 1), (41, .getfield 15, 3), (44, .invokestatic 251, 3), (47, .pop, 1), (48, .aload_n 0, 1), (49, .iload_n 3, 1), (50, .putfield 79, 3), (53, .aload_n 0, 1), (54, .areturn, 1)]
theorem tJ5_append_c97b9 : Tb mJ5_append_c97b9.2.1 lJ5_append_c97b9 := Tb.of (by decide +kernel)
def lJ5_getValue_6d5f1 : List (Nat × Instr × Nat) := [(0, .aload_n 0, 1), (1, .getfield 15, 3), (4, .areturn, 1)]
theorem tJ5_getValue_6d5f1 : Tb mJ5_getValue_6d5f1.2.1 lJ5_getValue_6d5f1 := Tb.of (by decide +kernel)
def lJ5_isLatin1_aae02 : List (Nat × Instr × Nat) := [(0, .getstatic 18, 3), (3, .ifCond .eq 14, 3), (6, .aload_n 0, 1), (7, .getfield 22, 3), (10, .ifCond .ne 7, 3), (13, .iconst 1, 1), (14, .goto 4, 3), (17, .iconst 0, 1), (18, .ireturn, 1)]
theorem tJ5_isLatin1_aae02 : Tb mJ5_isLatin1_aae02.2.1 lJ5_isLatin1_aae02 := Tb.of (by decide +kernel)
def lJ5_inflateIfNeededFor_a7421 : List (Nat × Instr × Nat) := [(0, .getstatic 18, 3), (3, .ifCond .eq 18, 3), (6, .aload_n 0, 1), (7, .getfield 22, 3), (10, .aload_n 1, 1), (11, .invokevirtual 40, 3), (14, .if_icmp .eq 7, 3), (17, .aload_n 0, 1), (18, .invokevirtual 195, 3), (21, .return_, 1)]
theorem tJ5_inflateIfNeededFor_a7421 : Tb mJ5_inflateIfNeededFor_a7421.2.1 lJ5_inflateIfNeededFor_a7421 := Tb.of (by decide +kernel)
def lJ5_putStringAt_47b60 : List (Nat × Instr × Nat) := [(0, .aload_n 0, 1), (1, .aload_n 2, 1), (2, .invokevirtual 397, 3), (5, .aload_n 2, 1), (6, .aload_n 0, 1), (7, .getfield 15, 3), (10, .iload_n 1, 1), (11, .aload_n 0, 1), (12, .getfield 22, 3), (15, .invokevirtual 399, 3), (18, .return_, 1)]
theorem tJ5_putStringAt_47b60 : Tb mJ5_putStringAt_47b60.2.1 lJ5_putStringAt_47b60 := Tb.of (by decide +kernel)
def lJ6_getChars_ba4f3 : List (Nat × Instr × Nat) := [(0, .iload_n 1, 1), (1, .istore 5, 2), (3, .iload_n 0, 1), (4, .ifCond .ge 7, 3), (7, .iconst 1, 1), (8, .goto 4, 3), (11, .iconst 0, 1), (12, .istore 6, 2), (14, .iload 6, 2), (16, .ifCond .ne 6, 3), (19, .iload_n 0, 1), (20, .ineg, 1), (21, .istore_n 0, 1), (22, .iload_n 0, 1), (23, .bipush (-100), 2), (25, .if_icmp .gt 47, 3), (28, .iload_n 0, 1), (29, .bipush 100, 2), (31, .idiv, 1), (32, .istore_n 3, 1), (33, .iload_n 3, 1), (34, .bipush 100, 2), (36, .imul, 1), (37, .iload_n 0, 1), (38, .isub, 1), (39, .istore 4, 2), (41, .iload_n 3, 1), (42, .istore_n 0, 1), (43, .aload_n 2, 1), (44, .iinc 5 (-1), 3), (47, .iload 5, 2), (49, .getstatic 83, 3), (52, .iload 4, 2), (54, .baload, 1), (55, .bastore, 1), (56, .aload_n 2, 1), (57, .iinc 5 (-1), 3), (60, .iload 5, 2), (62, .getstatic 87, 3), (65, .iload 4, 2), (67, .baload, 1), (68, .bastore, 1), (69, .goto (-47), 3), (72, .aload_n 2, 1), (73, .iinc 5 (-1), 3), (76, .iload 5, 2), (78, .getstatic 83, 3), (81, .iload_n 0, 1), (82, .ineg, 1), (83, .baload, 1), (84, .bastore, 1), (85, .iload_n 0, 1), (86, .bipush (-9), 2), (88, .if_icmp .ge 16, 3), (91, .aload_n 2, 1), (92, .iinc 5 (-1), 3), (95, .iload 5, 2), (97, .getstatic 87, 3), (100, .iload_n 0, 1), (101, .ineg, 1), (102, .baload, 1), (103, .bastore, 1), (104, .iload 6, 2), (106, .ifCond .eq 12, 3), (109, .aload_n 2, 1), (110, .iinc 5 (-1), 3), (113, .iload 5, 2), (115, .bipush 45, 2), (117, .bastore, 1), (118, .iload 5, 2), (120, .ireturn, 1)]
theorem tJ6_getChars_ba4f3 : Tb mJ6_getChars_ba4f3.2.1 lJ6_getChars_ba4f3 := Tb.of (by decide +kernel)
def lJ6_stringSize_0f7a4 : List (Nat × Instr × Nat) := [(0, .iconst 1, 1), (1, .istore_n 1, 1), (2, .iload_n 0, 1), (3, .ifCond .lt 8, 3), (6, .iconst 0, 1), (7, .istore_n 1, 1), (8, .iload_n 0, 1), (9, .ineg, 1), (10, .istore_n 0, 1), (11, .bipush (-10), 2), (13, .istore_n 2, 1), (14, .iconst 1, 1), (15, .istore_n 3, 1), (16, .iload_n 3, 1), (17, .bipush 10, 2), (19, .if_icmp .ge 23, 3), (22, .iload_n 0, 1), (23, .iload_n 2, 1), (24, .if_icmp .le 7, 3), (27, .iload_n 3, 1), (28, .iload_n 1, 1), (29, .iadd, 1), (30, .ireturn, 1), (31, .bipush 10, 2), (33, .iload_n 2, 1), (34, .imul, 1), (35, .istore_n 2, 1), (36, .iinc 3 1, 3), (39, .goto (-23), 3), (42, .bipush 10, 2), (44, .iload_n 1, 1), (45, .iadd, 1), (46, .ireturn, 1)]
theorem tJ6_stringSize_0f7a4 : Tb mJ6_stringSize_0f7a4.2.1 lJ6_stringSize_0f7a4 := Tb.of (by decide +kernel)
def lJ9_abs_0f7a4 : List (Nat × Instr × Nat) := [(0, .iload_n 0, 1), (1, .ifCond .ge 8, 3), (4, .iload_n 0, 1), (5, .ineg, 1), (6, .goto 4, 3), (9, .iload_n 0, 1), (10, .ireturn, 1)]
theorem tJ9_abs_0f7a4 : Tb mJ9_abs_0f7a4.2.1 lJ9_abs_0f7a4 := Tb.of (by decide +kernel)
def lJ9_abs_067f4 : List (Nat × Instr × Nat) := [(0, .lload_n 0, 1), (1, .lconst 0, 1), (2, .lcmp, 1), (3, .ifCond .ge 8, 3), (6, .lload_n 0, 1), (7, .lneg, 1), (8, .goto 4, 3), (11, .lload_n 0, 1), (12, .lreturn, 1)]
theorem tJ9_abs_067f4 : Tb mJ9_abs_067f4.2.1 lJ9_abs_067f4 := Tb.of (by decide +kernel)
def lJ9_max_7cf53 : List (Nat × Instr × Nat) := [(0, .iload_n 0, 1), (1, .iload_n 1, 1), (2, .if_icmp .lt 7, 3), (5, .iload_n 0, 1), (6, .goto 4, 3), (9, .iload_n 1, 1), (10, .ireturn, 1)]
theorem tJ9_max_7cf53 : Tb mJ9_max_7cf53.2.1 lJ9_max_7cf53 := Tb.of (by decide +kernel)
def lJ9_max_f86c9 : List (Nat × Instr × Nat) := [(0, .lload_n 0, 1), (1, .lload_n 2, 1), (2, .lcmp, 1), (3, .ifCond .lt 7, 3), (6, .lload_n 0, 1), (7, .goto 4, 3), (10, .lload_n 2, 1), (11, .lreturn, 1)]
theorem tJ9_max_f86c9 : Tb mJ9_max_f86c9.2.1 lJ9_max_f86c9 := Tb.of (by decide +kernel)
def lJ9_min_7cf53 : List (Nat × Instr × Nat) := [(0, .iload_n 0, 1), (1, .iload_n 1, 1), (2, .if_icmp .gt 7, 3), (5, .iload_n 0, 1), (6, .goto 4, 3), (9, .iload_n 1, 1), (10, .ireturn, 1)]
theorem tJ9_min_7cf53 : Tb mJ9_min_7cf53.2.1 lJ9_min_7cf53 := Tb.of (by decide +kernel)
def lJ9_min_f86c9 : List (Nat × Instr × Nat) := [(0, .lload_n 0, 1), (1, .lload_n 2, 1), (2, .lcmp, 1), (3, .ifCond .gt 7, 3), (6, .lload_n 0, 1), (7, .goto 4, 3), (10, .lload_n 2, 1), (11, .lreturn, 1)]
theorem tJ9_min_f86c9 : Tb mJ9_min_f86c9.2.1 lJ9_min_f86c9 := Tb.of (by decide +kernel)
def lJ0_init_81219 : List (Nat × Instr × Nat) := [(0, .aload_n 0, 1), (1, .aload_n 1, 1), (2, .aconst_null, 1), (3, .invokespecial 489, 3), (6, .return_, 1)]
theorem tJ0_init_81219 : Tb mJ0_init_81219.2.1 lJ0_init_81219 := Tb.of (by decide +kernel)
def lJ0_length_8abf5 : List (Nat × Instr × Nat) := [(0, .aload_n 0, 1), (1, .getfield 9, 3), (4, .arraylength, 1), (5, .aload_n 0, 1), (6, .invokevirtual 335, 3), (9, .ishr, 1), (10, .ireturn, 1)]
theorem tJ0_length_8abf5 : Tb mJ0_length_8abf5.2.1 lJ0_length_8abf5 := Tb.of (by decide +kernel)
def lJ0_charAt_5068e : List (Nat × Instr × Nat) := [(0, .aload_n 0, 1), (1, .invokevirtual 492, 3), (4, .ifCond .eq 12, 3), (7, .aload_n 0, 1), (8, .getfield 9, 3), (11, .iload_n 1, 1), (12, .invokestatic 495, 3), (15, .ireturn, 1), (16, .aload_n 0, 1), (17, .getfield 9, 3), (20, .iload_n 1, 1), (21, .invokestatic 498, 3), (24, .ireturn, 1)]
theorem tJ0_charAt_5068e : Tb mJ0_charAt_5068e.2.1 lJ0_charAt_5068e := Tb.of (by decide +kernel)
def lJ0_getBytes_840e7 : List (Nat × Instr × Nat) := [(0, .aload_n 0, 1), (1, .invokevirtual 335, 3), (4, .iload_n 3, 1), (5, .if_icmp .ne 23, 3), (8, .aload_n 0, 1), (9, .getfield 9, 3), (12, .iconst 0, 1), (13, .aload_n 1, 1), (14, .iload_n 2, 1), (15, .iload_n 3, 1), (16, .ishl, 1), (17, .aload_n 0, 1), (18, .getfield 9, 3), (21, .arraylength, 1), (22, .invokestatic 212, 3), (25, .goto 18, 3), (28, .aload_n 0, 1), (29, .getfield 9, 3), (32, .iconst 0, 1), (33, .aload_n 1, 1), (34, .iload_n 2, 1), (35, .aload_n 0, 1), (36, .getfield 9, 3), (39, .arraylength, 1), (40, .invokestatic 106, 3), (43, .return_, 1)]
theorem tJ0_getBytes_840e7 : Tb mJ0_getBytes_840e7.2.1 lJ0_getBytes_840e7 := Tb.of (by decide +kernel)
def lJ0_init_db425 : List (Nat × Instr × Nat) := [(0, .aload_n 0, 1), (1, .invokespecial 1, 3), (4, .aload_n 1, 1), (5, .invokevirtual 552, 3), (8, .astore_n 3, 1), (9, .aload_n 1, 1), (10, .invokevirtual 549, 3), (13, .istore 4, 2), (15, .aload_n 1, 1), (16, .invokevirtual 1047, 3), (19, .ifCond .eq 22, 3), (22, .aload_n 0, 1), (23, .iconst 0, 1), (24, .putfield 15, 3), (27, .aload_n 0, 1), (28, .aload_n 3, 1), (29, .iconst 0, 1), (30, .iload 4, 2), (32, .invokestatic 54, 3), (35, .putfield 9, 3), (38, .goto 59, 3), (41, .getstatic 38, 3), (44, .ifCond .eq 35, 3), (47, .aload_n 1, 1), (48, .getfield 1048, 3), (51, .ifCond .eq 28, 3), (54, .aload_n 0, 1), (55, .aload_n 3, 1), (56, .iconst 0, 1), (57, .iload 4, 2), (59, .invokestatic 1051, 3), (62, .putfield 9, 3), (65, .aload_n 0, 1), (66, .aload_n 0, 1), (67, .getfield 9, 3), (70, .iload 4, 2), (72, .invokestatic 47, 3), (75, .putfield 15, 3), (78, .return_, 1), (79, .aload_n 0, 1), (80, .iconst 1, 1), (81, .putfield 15, 3), (84, .aload_n 0, 1), (85, .aload_n 3, 1), (86, .iconst 0, 1), (87, .iload 4, 2), (89, .iconst 1, 1), (90, .ishl, 1), (91, .invokestatic 54, 3), (94, .putfield 9, 3), (97, .return_, 1)]
theorem tJ0_init_db425 : Tb mJ0_init_db425.2.1 lJ0_init_db425 := Tb.of (by decide +kernel)
def lJ0_coder_7d493 : List (Nat × Instr × Nat) := [(0, .getstatic 38, 3), (3, .ifCond .eq 10, 3), (6, .aload_n 0, 1), (7, .getfield 15, 3), (10, .goto 4, 3), (13, .iconst 1, 1), (14, .ireturn, 1)]
theorem tJ0_coder_7d493 : Tb mJ0_coder_7d493.2.1 lJ0_coder_7d493 := Tb.of (by decide +kernel)
def lJ0_isLatin1_aae02 : List (Nat × Instr × Nat) := [(0, .getstatic 38, 3), (3, .ifCond .eq 14, 3), (6, .aload_n 0, 1), (7, .getfield 15, 3), (10, .ifCond .ne 7, 3), (13, .iconst 1, 1), (14, .goto 4, 3), (17, .iconst 0, 1), (18, .ireturn, 1)]
theorem tJ0_isLatin1_aae02 : Tb mJ0_isLatin1_aae02.2.1 lJ0_isLatin1_aae02 := Tb.of (by decide +kernel)
def lJ0_checkIndex_df160 : List (Nat × Instr × Nat) := [(0, .iload_n 0, 1), (1, .iload_n 1, 1), (2, .getstatic 1053, 3), (5, .invokestatic 1059, 3), (8, .pop, 1), (9, .return_, 1)]
theorem tJ0_checkIndex_df160 : Tb mJ0_checkIndex_df160.2.1 lJ0_checkIndex_df160 := Tb.of (by decide +kernel)
def lJ0_checkBoundsOffCount_cabcc : List (Nat × Instr × Nat) := [(0, .iload_n 0, 1), (1, .iload_n 1, 1), (2, .iload_n 2, 1), (3, .getstatic 1053, 3), (6, .invokestatic 1065, 3), (9, .ireturn, 1)]
theorem tJ0_checkBoundsOffCount_cabcc : Tb mJ0_checkBoundsOffCount_cabcc.2.1 lJ0_checkBoundsOffCount_cabcc := Tb.of (by decide +kernel)
def lJ0_checkBoundsBeginEnd_23922 : List (Nat × Instr × Nat) := [(0, .iload_n 0, 1), (1, .iload_n 1, 1), (2, .iload_n 2, 1), (3, .getstatic 1053, 3), (6, .invokestatic 1062, 3), (9, .pop, 1), (10, .return_, 1)]
theorem tJ0_checkBoundsBeginEnd_23922 : Tb mJ0_checkBoundsBeginEnd_23922.2.1 lJ0_checkBoundsBeginEnd_23922 := Tb.of (by decide +kernel)
def lJ4_init_da8c8 : List (Nat × Instr × Nat) := [(0, .aload_n 0, 1), (1, .bipush 16, 2), (3, .invokespecial 1, 3), (6, .return_, 1)]
theorem tJ4_init_da8c8 : Tb mJ4_init_da8c8.2.1 lJ4_init_da8c8 := Tb.of (by decide +kernel)
def lJ4_init_a7421 : List (Nat × Instr × Nat) := [(0, .aload_n 0, 1), (1, .aload_n 1, 1), (2, .invokespecial 7, 3), (5, .return_, 1)]
theorem tJ4_init_a7421 : Tb mJ4_init_a7421.2.1 lJ4_init_a7421 := Tb.of (by decide +kernel)
def lJ4_append_15ec4 : List (Nat × Instr × Nat) := [(0, .aload_n 0, 1), (1, .aload_n 1, 1), (2, .invokespecial 29, 3), (5, .pop, 1), (6, .aload_n 0, 1), (7, .areturn, 1)]
theorem tJ4_append_15ec4 : Tb mJ4_append_15ec4.2.1 lJ4_append_15ec4 := Tb.of (by decide +kernel)
def lJ4_append_cf468 : List (Nat × Instr × Nat) := [(0, .aload_n 0, 1), (1, .iload_n 1, 1), (2, .invokespecial 50, 3), (5, .pop, 1), (6, .aload_n 0, 1), (7, .areturn, 1)]
theorem tJ4_append_cf468 : Tb mJ4_append_cf468.2.1 lJ4_append_cf468 := Tb.of (by decide +kernel)
def lJ4_append_bf812 : List (Nat × Instr × Nat) := [(0, .aload_n 0, 1), (1, .iload_n 1, 1), (2, .invokespecial 53, 3), (5, .pop, 1), (6, .aload_n 0, 1), (7, .areturn, 1)]
theorem tJ4_append_bf812 : Tb mJ4_append_bf812.2.1 lJ4_append_bf812 := Tb.of (by decide +kernel)
def lJ4_toString_0e30d : List (Nat × Instr × Nat) := [(0, .new 18, 3), (3, .dup, 1), (4, .aload_n 0, 1), (5, .invokespecial 137, 3), (8, .areturn, 1)]
theorem tJ4_toString_0e30d : Tb mJ4_toString_0e30d.2.1 lJ4_toString_0e30d := Tb.of (by decide +kernel)
def lJ4_append_cf1ce : List (Nat × Instr × Nat) := [(0, .aload_n 0, 1), (1, .aload_n 1, 1), (2, .invokevirtual 23, 3), (5, .areturn, 1)]
theorem tJ4_append_cf1ce : Tb mJ4_append_cf1ce.2.1 lJ4_append_cf1ce := Tb.of (by decide +kernel)
def lJ4_length_8abf5 : List (Nat × Instr × Nat) := [(0, .aload_n 0, 1), (1, .invokespecial 343, 3), (4, .ireturn, 1)]
theorem tJ4_length_8abf5 : Tb mJ4_length_8abf5.2.1 lJ4_length_8abf5 := Tb.of (by decide +kernel)
def lJ1_charAt_3b067 : List (Nat × Instr × Nat) := [(0, .iload_n 1, 1), (1, .aload_n 0, 1), (2, .arraylength, 1), (3, .invokestatic 9, 3), (6, .aload_n 0, 1), (7, .iload_n 1, 1), (8, .baload, 1), (9, .sipush 255, 3), (12, .iand, 1), (13, .i2c, 1), (14, .ireturn, 1)]
theorem tJ1_charAt_3b067 : Tb mJ1_charAt_3b067.2.1 lJ1_charAt_3b067 := Tb.of (by decide +kernel)
def lJ1_canEncode_fc78d : List (Nat × Instr × Nat) := [(0, .iload_n 0, 1), (1, .sipush 255, 3), (4, .if_icmp .gt 7, 3), (7, .iconst 1, 1), (8, .goto 4, 3), (11, .iconst 0, 1), (12, .ireturn, 1)]
theorem tJ1_canEncode_fc78d : Tb mJ1_canEncode_fc78d.2.1 lJ1_canEncode_fc78d := Tb.of (by decide +kernel)
def lJ1_inflate_0e8fd : List (Nat × Instr × Nat) := [(0, .aload_n 0, 1), (1, .iload_n 1, 1), (2, .aload_n 2, 1), (3, .iload_n 3, 1), (4, .iload 4, 2), (6, .invokestatic 240, 3), (9, .return_, 1)]
theorem tJ1_inflate_0e8fd : Tb mJ1_inflate_0e8fd.2.1 lJ1_inflate_0e8fd := Tb.of (by decide +kernel)
def lJ2_newBytesFor_77867 : List (Nat × Instr × Nat) := [(0, .iload_n 0, 1), (1, .invokestatic 11, 3), (4, .newarray .byte, 2), (6, .areturn, 1)]
theorem tJ2_newBytesFor_77867 : Tb mJ2_newBytesFor_77867.2.1 lJ2_newBytesFor_77867 := Tb.of (by decide +kernel)
def lJ2_newBytesLength_0f7a4 : List (Nat × Instr × Nat) := [(0, .iload_n 0, 1), (1, .ifCond .ge 11, 3), (4, .new 17, 3), (7, .dup, 1), (8, .invokespecial 19, 3), (11, .athrow, 1), (12, .iload_n 0, 1), (13, .ldc 20, 2), (15, .if_icmp .lt 40, 3), (18, .new 21, 3), (21, .dup, 1), (22, .new 23, 3), (25, .dup, 1), (26, .invokespecial 25, 3), (29, .ldc 26, 2), (31, .invokevirtual 28, 3), (34, .iload_n 0, 1), (35, .invokevirtual 32, 3), (38, .ldc 35, 2), (40, .invokevirtual 28, 3), (43, .ldc 20, 2), (45, .invokevirtual 32, 3), (48, .invokevirtual 37, 3), (51, .invokespecial 41, 3), (54, .athrow, 1), (55, .iload_n 0, 1), (56, .iconst 1, 1), (57, .ishl, 1), (58, .ireturn, 1)]
theorem tJ2_newBytesLength_0f7a4 : Tb mJ2_newBytesLength_0f7a4.2.1 lJ2_newBytesLength_0f7a4 := Tb.of (by decide +kernel)
def lJ2_putChar_b72d1 : List (Nat × Instr × Nat) := [(0, .getstatic 44, 3), (3, .ifCond .ne 25, 3), (6, .iload_n 1, 1), (7, .ifCond .lt 11, 3), (10, .iload_n 1, 1), (11, .aload_n 0, 1), (12, .invokestatic 48, 3), (15, .if_icmp .lt 13, 3), (18, .new 52, 3), (21, .dup, 1), (22, .ldc 54, 2), (24, .invokespecial 56, 3), (27, .athrow, 1), (28, .iload_n 1, 1), (29, .iconst 1, 1), (30, .ishl, 1), (31, .istore_n 1, 1), (32, .aload_n 0, 1), (33, .iload_n 1, 1), (34, .iinc 1 1, 3), (37, .iload_n 2, 1), (38, .getstatic 59, 3), (41, .ishr, 1), (42, .i2b, 1), (43, .bastore, 1), (44, .aload_n 0, 1), (45, .iload_n 1, 1), (46, .iload_n 2, 1), (47, .getstatic 63, 3), (50, .ishr, 1), (51, .i2b, 1), (52, .bastore, 1), (53, .return_, 1)]
theorem tJ2_putChar_b72d1 : Tb mJ2_putChar_b72d1.2.1 lJ2_putChar_b72d1 := Tb.of (by decide +kernel)
def lJ2_getChar_3b067 : List (Nat × Instr × Nat) := [(0, .getstatic 44, 3), (3, .ifCond .ne 25, 3), (6, .iload_n 1, 1), (7, .ifCond .lt 11, 3), (10, .iload_n 1, 1), (11, .aload_n 0, 1), (12, .invokestatic 48, 3), (15, .if_icmp .lt 13, 3), (18, .new 52, 3), (21, .dup, 1), (22, .ldc 54, 2), (24, .invokespecial 56, 3), (27, .athrow, 1), (28, .iload_n 1, 1), (29, .iconst 1, 1), (30, .ishl, 1), (31, .istore_n 1, 1), (32, .aload_n 0, 1), (33, .iload_n 1, 1), (34, .iinc 1 1, 3), (37, .baload, 1), (38, .sipush 255, 3), (41, .iand, 1), (42, .getstatic 59, 3), (45, .ishl, 1), (46, .aload_n 0, 1), (47, .iload_n 1, 1), (48, .baload, 1), (49, .sipush 255, 3), (52, .iand, 1), (53, .getstatic 63, 3), (56, .ishl, 1), (57, .ior, 1), (58, .i2c, 1), (59, .ireturn, 1)]
theorem tJ2_getChar_3b067 : Tb mJ2_getChar_3b067.2.1 lJ2_getChar_3b067 := Tb.of (by decide +kernel)
def lJ2_length_9d52b : List (Nat × Instr × Nat) := [(0, .aload_n 0, 1), (1, .arraylength, 1), (2, .iconst 1, 1), (3, .ishr, 1), (4, .ireturn, 1)]
theorem tJ2_length_9d52b : Tb mJ2_length_9d52b.2.1 lJ2_length_9d52b := Tb.of (by decide +kernel)
def lJ2_coderFromArrayLen_85cad : List (Nat × Instr × Nat) := [(0, .iload_n 1, 1), (1, .aload_n 0, 1), (2, .arraylength, 1), (3, .isub, 1), (4, .bipush 31, 2), (6, .iushr, 1), (7, .i2b, 1), (8, .ireturn, 1)]
theorem tJ2_coderFromArrayLen_85cad : Tb mJ2_coderFromArrayLen_85cad.2.1 lJ2_coderFromArrayLen_85cad := Tb.of (by decide +kernel)
def lJ2_compress_39247 : List (Nat × Instr × Nat) := [(0, .iload_n 2, 1), (1, .newarray .byte, 2), (3, .astore_n 3, 1), (4, .aload_n 0, 1), (5, .iload_n 1, 1), (6, .aload_n 3, 1), (7, .iconst 0, 1), (8, .iload_n 2, 1), (9, .invokestatic 123, 3), (12, .istore 4, 2), (14, .iload 4, 2), (16, .iload_n 2, 1), (17, .if_icmp .eq 47, 3), (20, .aload_n 0, 1), (21, .iload_n 1, 1), (22, .iconst 1, 1), (23, .ishl, 1), (24, .iload_n 1, 1), (25, .iload_n 2, 1), (26, .iadd, 1), (27, .invokestatic 11, 3), (30, .invokestatic 126, 3), (33, .astore 5, 2), (35, .aload 5, 2), (37, .iload 4, 2), (39, .invokestatic 71, 3), (42, .sipush 255, 3), (45, .if_icmp .gt 16, 3), (48, .aload 5, 2), (50, .iconst 0, 1), (51, .aload_n 3, 1), (52, .iconst 0, 1), (53, .iload_n 2, 1), (54, .invokestatic 123, 3), (57, .iload_n 2, 1), (58, .if_icmp .eq 6, 3), (61, .aload 5, 2), (63, .areturn, 1), (64, .aload_n 3, 1), (65, .areturn, 1)]
theorem tJ2_compress_39247 : Tb mJ2_compress_39247.2.1 lJ2_compress_39247 := Tb.of (by decide +kernel)
def lJ2_compress_5af95 : List (Nat × Instr × Nat) := [(0, .iload_n 1, 1), (1, .iload 4, 2), (3, .aload_n 0, 1), (4, .invokestatic 173, 3), (7, .iconst 0, 1), (8, .istore 5, 2), (10, .iload 5, 2), (12, .iload 4, 2), (14, .if_icmp .ge 39, 3), (17, .aload_n 0, 1), (18, .iload_n 1, 1), (19, .invokestatic 71, 3), (22, .istore 6, 2), (24, .iload 6, 2), (26, .sipush 255, 3), (29, .if_icmp .le 6, 3), (32, .iload 5, 2), (34, .ireturn, 1), (35, .aload_n 2, 1), (36, .iload_n 3, 1), (37, .iload 6, 2), (39, .i2b, 1), (40, .bastore, 1), (41, .iinc 1 1, 3), (44, .iinc 3 1, 3), (47, .iinc 5 1, 3), (50, .goto (-40), 3), (53, .iload 4, 2), (55, .ireturn, 1)]
theorem tJ2_compress_5af95 : Tb mJ2_compress_5af95.2.1 lJ2_compress_5af95 := Tb.of (by decide +kernel)
def lJ2_putCharSB_b72d1 : List (Nat × Instr × Nat) := [(0, .iload_n 1, 1), (1, .aload_n 0, 1), (2, .invokestatic 67, 3), (5, .aload_n 0, 1), (6, .iload_n 1, 1), (7, .iload_n 2, 1), (8, .invokestatic 111, 3), (11, .return_, 1)]
theorem tJ2_putCharSB_b72d1 : Tb mJ2_putCharSB_b72d1.2.1 lJ2_putCharSB_b72d1 := Tb.of (by decide +kernel)
def lJ2_getChars_46870 : List (Nat × Instr × Nat) := [(0, .iload_n 1, 1), (1, .iload_n 2, 1), (2, .aload_n 3, 1), (3, .invokestatic 96, 3), (6, .iload_n 0, 1), (7, .iload_n 2, 1), (8, .aload_n 3, 1), (9, .invokestatic 393, 3), (12, .istore 4, 2), (14, .getstatic 44, 3), (17, .ifCond .ne 17, 3), (20, .iload_n 1, 1), (21, .iload 4, 2), (23, .if_icmp .eq 11, 3), (26, .new 52, 3), (29, .dup, 1), (30, .invokespecial 66, 3), (33, .athrow, 1), (34, .iload 4, 2), (36, .ireturn, 1)]
theorem tJ2_getChars_46870 : Tb mJ2_getChars_46870.2.1 lJ2_getChars_46870 := Tb.of (by decide +kernel)
def lJ2_putCharsAt_cd4e5 : List (Nat × Instr × Nat) := [(0, .iload_n 1, 1), (1, .iconst 4, 1), (2, .iadd, 1), (3, .istore 6, 2), (5, .iload_n 1, 1), (6, .iload 6, 2), (8, .aload_n 0, 1), (9, .invokestatic 96, 3), (12, .aload_n 0, 1), (13, .iload_n 1, 1), (14, .iinc 1 1, 3), (17, .iload_n 2, 1), (18, .invokestatic 111, 3), (21, .aload_n 0, 1), (22, .iload_n 1, 1), (23, .iinc 1 1, 3), (26, .iload_n 3, 1), (27, .invokestatic 111, 3), (30, .aload_n 0, 1), (31, .iload_n 1, 1), (32, .iinc 1 1, 3), (35, .iload 4, 2), (37, .invokestatic 111, 3), (40, .aload_n 0, 1), (41, .iload_n 1, 1), (42, .iinc 1 1, 3), (45, .iload 5, 2), (47, .invokestatic 111, 3), (50, .getstatic 44, 3), (53, .ifCond .ne 17, 3), (56, .iload_n 1, 1), (57, .iload 6, 2), (59, .if_icmp .eq 11, 3), (62, .new 52, 3), (65, .dup, 1), (66, .invokespecial 66, 3), (69, .athrow, 1), (70, .iload 6, 2), (72, .ireturn, 1)]
theorem tJ2_putCharsAt_cd4e5 : Tb mJ2_putCharsAt_cd4e5.2.1 lJ2_putCharsAt_cd4e5 := Tb.of (by decide +kernel)
def lJ2_charAt_3b067 : List (Nat × Instr × Nat) := [(0, .iload_n 1, 1), (1, .aload_n 0, 1), (2, .invokestatic 67, 3), (5, .aload_n 0, 1), (6, .iload_n 1, 1), (7, .invokestatic 71, 3), (10, .ireturn, 1)]
theorem tJ2_charAt_3b067 : Tb mJ2_charAt_3b067.2.1 lJ2_charAt_3b067 := Tb.of (by decide +kernel)
def lJ2_inflate_0e8fd : List (Nat × Instr × Nat) := [(0, .iload_n 3, 1), (1, .iload 4, 2), (3, .aload_n 2, 1), (4, .invokestatic 173, 3), (7, .iconst 0, 1), (8, .istore 5, 2), (10, .iload 5, 2), (12, .iload 4, 2), (14, .if_icmp .ge 27, 3), (17, .aload_n 2, 1), (18, .iload_n 3, 1), (19, .iinc 3 1, 3), (22, .aload_n 0, 1), (23, .iload_n 1, 1), (24, .iinc 1 1, 3), (27, .baload, 1), (28, .sipush 255, 3), (31, .iand, 1), (32, .invokestatic 111, 3), (35, .iinc 5 1, 3), (38, .goto (-28), 3), (41, .return_, 1)]
theorem tJ2_inflate_0e8fd : Tb mJ2_inflate_0e8fd.2.1 lJ2_inflate_0e8fd := Tb.of (by decide +kernel)
def lJ2_getChars_ba4f3 : List (Nat × Instr × Nat) := [(0, .iload_n 1, 1), (1, .istore 5, 2), (3, .iload_n 0, 1), (4, .ifCond .ge 7, 3), (7, .iconst 1, 1), (8, .goto 4, 3), (11, .iconst 0, 1), (12, .istore 6, 2), (14, .iload 6, 2), (16, .ifCond .ne 6, 3), (19, .iload_n 0, 1), (20, .ineg, 1), (21, .istore_n 0, 1), (22, .iload_n 0, 1), (23, .bipush (-100), 2), (25, .if_icmp .gt 51, 3), (28, .iload_n 0, 1), (29, .bipush 100, 2), (31, .idiv, 1), (32, .istore_n 3, 1), (33, .iload_n 3, 1), (34, .bipush 100, 2), (36, .imul, 1), (37, .iload_n 0, 1), (38, .isub, 1), (39, .istore 4, 2), (41, .iload_n 3, 1), (42, .istore_n 0, 1), (43, .aload_n 2, 1), (44, .iinc 5 (-1), 3), (47, .iload 5, 2), (49, .getstatic 403, 3), (52, .iload 4, 2), (54, .baload, 1), (55, .invokestatic 111, 3), (58, .aload_n 2, 1), (59, .iinc 5 (-1), 3), (62, .iload 5, 2), (64, .getstatic 407, 3), (67, .iload 4, 2), (69, .baload, 1), (70, .invokestatic 111, 3), (73, .goto (-51), 3), (76, .aload_n 2, 1), (77, .iinc 5 (-1), 3), (80, .iload 5, 2), (82, .getstatic 403, 3), (85, .iload_n 0, 1), (86, .ineg, 1), (87, .baload, 1), (88, .invokestatic 111, 3), (91, .iload_n 0, 1), (92, .bipush (-9), 2), (94, .if_icmp .ge 18, 3), (97, .aload_n 2, 1), (98, .iinc 5 (-1), 3), (101, .iload 5, 2), (103, .getstatic 407, 3), (106, .iload_n 0, 1), (107, .ineg, 1), (108, .baload, 1), (109, .invokestatic 111, 3), (112, .iload 6, 2), (114, .ifCond .eq 14, 3), (117, .aload_n 2, 1), (118, .iinc 5 (-1), 3), (121, .iload 5, 2), (123, .bipush 45, 2), (125, .invokestatic 111, 3), (128, .iload 5, 2), (130, .ireturn, 1)]
theorem tJ2_getChars_ba4f3 : Tb mJ2_getChars_ba4f3.2.1 lJ2_getChars_ba4f3 := Tb.of (by decide +kernel)
def lJ2_checkIndex_2214a : List (Nat × Instr × Nat) := [(0, .iload_n 0, 1), (1, .aload_n 1, 1), (2, .invokestatic 48, 3), (5, .invokestatic 414, 3), (8, .return_, 1)]
theorem tJ2_checkIndex_2214a : Tb mJ2_checkIndex_2214a.2.1 lJ2_checkIndex_2214a := Tb.of (by decide +kernel)
def lJ2_checkBoundsBeginEnd_d044e : List (Nat × Instr × Nat) := [(0, .iload_n 0, 1), (1, .iload_n 1, 1), (2, .aload_n 2, 1), (3, .invokestatic 48, 3), (6, .invokestatic 241, 3), (9, .return_, 1)]
theorem tJ2_checkBoundsBeginEnd_d044e : Tb mJ2_checkBoundsBeginEnd_d044e.2.1 lJ2_checkBoundsBeginEnd_d044e := Tb.of (by decide +kernel)
def lJ2_checkBoundsOffCount_d044e : List (Nat × Instr × Nat) := [(0, .iload_n 0, 1), (1, .iload_n 1, 1), (2, .aload_n 2, 1), (3, .invokestatic 48, 3), (6, .invokestatic 419, 3), (9, .pop, 1), (10, .return_, 1)]
theorem tJ2_checkBoundsOffCount_d044e : Tb mJ2_checkBoundsOffCount_d044e.2.1 lJ2_checkBoundsOffCount_d044e := Tb.of (by decide +kernel)
def lJ7_fill_53178 : List (Nat × Instr × Nat) := [(0, .iconst 0, 1), (1, .istore_n 2, 1), (2, .aload_n 0, 1), (3, .arraylength, 1), (4, .istore_n 3, 1), (5, .iload_n 2, 1), (6, .iload_n 3, 1), (7, .if_icmp .ge 13, 3), (10, .aload_n 0, 1), (11, .iload_n 2, 1), (12, .iload_n 1, 1), (13, .iastore, 1), (14, .iinc 2 1, 3), (17, .goto (-12), 3), (20, .return_, 1)]
theorem tJ7_fill_53178 : Tb mJ7_fill_53178.2.1 lJ7_fill_53178 := Tb.of (by decide +kernel)
def lJ7_copyOf_9075b : List (Nat × Instr × Nat) := [(0, .iload_n 1, 1), (1, .aload_n 0, 1), (2, .arraylength, 1), (3, .if_icmp .ne 11, 3), (6, .aload_n 0, 1), (7, .invokevirtual 310, 3), (10, .checkcast 311, 3), (13, .areturn, 1), (14, .iload_n 1, 1), (15, .newarray .byte, 2), (17, .astore_n 2, 1), (18, .aload_n 0, 1), (19, .iconst 0, 1), (20, .aload_n 2, 1), (21, .iconst 0, 1), (22, .aload_n 0, 1), (23, .arraylength, 1), (24, .iload_n 1, 1), (25, .invokestatic 304, 3), (28, .invokestatic 150, 3), (31, .aload_n 2, 1), (32, .areturn, 1)]
theorem tJ7_copyOf_9075b : Tb mJ7_copyOf_9075b.2.1 lJ7_copyOf_9075b := Tb.of (by decide +kernel)
def lJ7_copyOf_59c91 : List (Nat × Instr × Nat) := [(0, .iload_n 1, 1), (1, .aload_n 0, 1), (2, .arraylength, 1), (3, .if_icmp .ne 11, 3), (6, .aload_n 0, 1), (7, .invokevirtual 316, 3), (10, .checkcast 317, 3), (13, .areturn, 1), (14, .iload_n 1, 1), (15, .newarray .int, 2), (17, .astore_n 2, 1), (18, .aload_n 0, 1), (19, .iconst 0, 1), (20, .aload_n 2, 1), (21, .iconst 0, 1), (22, .aload_n 0, 1), (23, .arraylength, 1), (24, .iload_n 1, 1), (25, .invokestatic 304, 3), (28, .invokestatic 150, 3), (31, .aload_n 2, 1), (32, .areturn, 1)]
theorem tJ7_copyOf_59c91 : Tb mJ7_copyOf_59c91.2.1 lJ7_copyOf_59c91 := Tb.of (by decide +kernel)
def lJ7_checkLength_df160 : List (Nat × Instr × Nat) := [(0, .iload_n 1, 1), (1, .iload_n 0, 1), (2, .if_icmp .ge 35, 3), (5, .new 43, 3), (8, .dup, 1), (9, .new 45, 3), (12, .dup, 1), (13, .invokespecial 47, 3), (16, .iload_n 0, 1), (17, .invokevirtual 54, 3), (20, .ldc_w 337, 3), (23, .invokevirtual 50, 3), (26, .iload_n 1, 1), (27, .invokevirtual 54, 3), (30, .invokevirtual 61, 3), (33, .invokespecial 65, 3), (36, .athrow, 1), (37, .return_, 1)]
theorem tJ7_checkLength_df160 : Tb mJ7_checkLength_df160.2.1 lJ7_checkLength_df160 := Tb.of (by decide +kernel)
def lJ7_copyOfRange_39247 : List (Nat × Instr × Nat) := [(0, .iload_n 1, 1), (1, .ifCond .ne 9, 3), (4, .iload_n 2, 1), (5, .aload_n 0, 1), (6, .arraylength, 1), (7, .if_icmp .eq 10, 3), (10, .aload_n 0, 1), (11, .iload_n 1, 1), (12, .iload_n 2, 1), (13, .invokestatic 339, 3), (16, .areturn, 1), (17, .aload_n 0, 1), (18, .invokevirtual 310, 3), (21, .checkcast 311, 3), (24, .areturn, 1)]
theorem tJ7_copyOfRange_39247 : Tb mJ7_copyOfRange_39247.2.1 lJ7_copyOfRange_39247 := Tb.of (by decide +kernel)
def lJ7_copyOfRangeByte_39247 : List (Nat × Instr × Nat) := [(0, .iload_n 1, 1), (1, .iload_n 2, 1), (2, .invokestatic 343, 3), (5, .iload_n 2, 1), (6, .iload_n 1, 1), (7, .isub, 1), (8, .istore_n 3, 1), (9, .iload_n 3, 1), (10, .newarray .byte, 2), (12, .astore 4, 2), (14, .aload_n 0, 1), (15, .iload_n 1, 1), (16, .aload 4, 2), (18, .iconst 0, 1), (19, .aload_n 0, 1), (20, .arraylength, 1), (21, .iload_n 1, 1), (22, .isub, 1), (23, .iload_n 3, 1), (24, .invokestatic 304, 3), (27, .invokestatic 150, 3), (30, .aload 4, 2), (32, .areturn, 1)]
theorem tJ7_copyOfRangeByte_39247 : Tb mJ7_copyOfRangeByte_39247.2.1 lJ7_copyOfRangeByte_39247 := Tb.of (by decide +kernel)
def lJ8_newLength_cabcc : List (Nat × Instr × Nat) := [(0, .iload_n 0, 1), (1, .iload_n 1, 1), (2, .iload_n 2, 1), (3, .invokestatic 194, 3), (6, .iadd, 1), (7, .istore_n 3, 1), (8, .iconst 0, 1), (9, .iload_n 3, 1), (10, .if_icmp .ge 11, 3), (13, .iload_n 3, 1), (14, .ldc 200, 2), (16, .if_icmp .gt 5, 3), (19, .iload_n 3, 1), (20, .ireturn, 1), (21, .iload_n 0, 1), (22, .iload_n 1, 1), (23, .invokestatic 201, 3), (26, .ireturn, 1)]
theorem tJ8_newLength_cabcc : Tb mJ8_newLength_cabcc.2.1 lJ8_newLength_cabcc := Tb.of (by decide +kernel)
def lJ8_hugeLength_7cf53 : List (Nat × Instr × Nat) := [(0, .iload_n 0, 1), (1, .iload_n 1, 1), (2, .iadd, 1), (3, .istore_n 2, 1), (4, .iload_n 2, 1), (5, .ifCond .ge 44, 3), (8, .new 204, 3), (11, .dup, 1), (12, .new 89, 3), (15, .dup, 1), (16, .invokespecial 91, 3), (19, .ldc 206, 2), (21, .invokevirtual 94, 3), (24, .iload_n 0, 1), (25, .invokevirtual 98, 3), (28, .ldc 208, 2), (30, .invokevirtual 94, 3), (33, .iload_n 1, 1), (34, .invokevirtual 98, 3), (37, .ldc 210, 2), (39, .invokevirtual 94, 3), (42, .invokevirtual 101, 3), (45, .invokespecial 212, 3), (48, .athrow, 1), (49, .iload_n 2, 1), (50, .ldc 200, 2), (52, .if_icmp .gt 6, 3), (55, .ldc 200, 2), (57, .ireturn, 1), (58, .iload_n 2, 1), (59, .ireturn, 1)]
theorem tJ8_hugeLength_7cf53 : Tb mJ8_hugeLength_7cf53.2.1 lJ8_hugeLength_7cf53 := Tb.of (by decide +kernel)
def lJ3_checkIndex_8e157 : List (Nat × Instr × Nat) := [(0, .iload_n 0, 1), (1, .ifCond .lt 8, 3), (4, .iload_n 0, 1), (5, .iload_n 1, 1), (6, .if_icmp .lt 10, 3), (9, .aload_n 2, 1), (10, .iload_n 0, 1), (11, .iload_n 1, 1), (12, .invokestatic 95, 3), (15, .athrow, 1), (16, .iload_n 0, 1), (17, .ireturn, 1)]
theorem tJ3_checkIndex_8e157 : Tb mJ3_checkIndex_8e157.2.1 lJ3_checkIndex_8e157 := Tb.of (by decide +kernel)
def lJ3_checkFromToIndex_8c36e : List (Nat × Instr × Nat) := [(0, .iload_n 0, 1), (1, .ifCond .lt 13, 3), (4, .iload_n 0, 1), (5, .iload_n 1, 1), (6, .if_icmp .gt 8, 3), (9, .iload_n 1, 1), (10, .iload_n 2, 1), (11, .if_icmp .le 11, 3), (14, .aload_n 3, 1), (15, .iload_n 0, 1), (16, .iload_n 1, 1), (17, .iload_n 2, 1), (18, .invokestatic 99, 3), (21, .athrow, 1), (22, .iload_n 0, 1), (23, .ireturn, 1)]
theorem tJ3_checkFromToIndex_8c36e : Tb mJ3_checkFromToIndex_8c36e.2.1 lJ3_checkFromToIndex_8c36e := Tb.of (by decide +kernel)
def lJ3_checkFromIndexSize_8c36e : List (Nat × Instr × Nat) := [(0, .iload_n 2, 1), (1, .iload_n 0, 1), (2, .ior, 1), (3, .iload_n 1, 1), (4, .ior, 1), (5, .ifCond .lt 10, 3), (8, .iload_n 1, 1), (9, .iload_n 2, 1), (10, .iload_n 0, 1), (11, .isub, 1), (12, .if_icmp .le 11, 3), (15, .aload_n 3, 1), (16, .iload_n 0, 1), (17, .iload_n 1, 1), (18, .iload_n 2, 1), (19, .invokestatic 103, 3), (22, .athrow, 1), (23, .iload_n 0, 1), (24, .ireturn, 1)]
theorem tJ3_checkFromIndexSize_8c36e : Tb mJ3_checkFromIndexSize_8c36e.2.1 lJ3_checkFromIndexSize_8c36e := Tb.of (by decide +kernel)
def lL_init : List (Nat × Instr × Nat) := [(0, .aload_n 0, 1), (1, .invokespecial 1, 3), (4, .aload_n 0, 1), (5, .bipush 6, 2), (7, .bipush 6, 2), (9, .multianewarray 7 2, 4), (13, .putfield 9, 3), (16, .aload_n 0, 1), (17, .bipush 6, 2), (19, .bipush 6, 2), (21, .multianewarray 7 2, 4), (25, .putfield 14, 3), (28, .aload_n 0, 1), (29, .bipush 6, 2), (31, .newarray .int, 2), (33, .putfield 17, 3), (36, .aload_n 0, 1), (37, .bipush 30, 2), (39, .newarray .int, 2), (41, .putfield 21, 3), (44, .aload_n 0, 1), (45, .bipush 15, 2), (47, .newarray .int, 2), (49, .putfield 24, 3), (52, .return_, 1)]
theorem tL_init : Tb mL_init.2.1 lL_init := Tb.of (by decide +kernel)
def lL_cell : List (Nat × Instr × Nat) := [(0, .iload_n 1, 1), (1, .aload_n 0, 1), (2, .arraylength, 1), (3, .if_icmp .ge 9, 3), (6, .aload_n 0, 1), (7, .iload_n 1, 1), (8, .iaload, 1), (9, .goto 4, 3), (12, .iconst 0, 1), (13, .ireturn, 1)]
theorem tL_cell : Tb mL_cell.2.1 lL_cell := Tb.of (by decide +kernel)
def lL_bound : List (Nat × Instr × Nat) := [(0, .iload_n 0, 1), (1, .ldc 27, 2), (3, .iand, 1), (4, .iload_n 1, 1), (5, .irem, 1), (6, .ireturn, 1)]
theorem tL_bound : Tb mL_bound.2.1 lL_bound := Tb.of (by decide +kernel)
def lL_read : List (Nat × Instr × Nat) := [(0, .iconst 0, 1), (1, .istore_n 2, 1), (2, .iload_n 2, 1), (3, .aload_n 1, 1), (4, .invokevirtual 28, 3), (7, .if_icmp .ge 94, 3), (10, .iconst 5, 1), (11, .newarray .int, 2), (13, .astore_n 3, 1), (14, .iconst 0, 1), (15, .istore 4, 2), (17, .iload 4, 2), (19, .bipush 20, 2), (21, .if_icmp .ge 49, 3), (24, .aload_n 3, 1), (25, .iload 4, 2), (27, .iconst 4, 1), (28, .idiv, 1), (29, .aload_n 3, 1), (30, .iload 4, 2), (32, .iconst 4, 1), (33, .idiv, 1), (34, .iaload, 1), (35, .bipush 8, 2), (37, .ishl, 1), (38, .iload_n 2, 1), (39, .iload 4, 2), (41, .iadd, 1), (42, .aload_n 1, 1), (43, .invokevirtual 28, 3), (46, .if_icmp .ge 14, 3), (49, .aload_n 1, 1), (50, .iload_n 2, 1), (51, .iload 4, 2), (53, .iadd, 1), (54, .invokevirtual 34, 3), (57, .goto 5, 3), (60, .bipush 32, 2), (62, .ior, 1), (63, .iastore, 1), (64, .iinc 4 1, 3), (67, .goto (-50), 3), (70, .aload_n 0, 1), (71, .aload_n 3, 1), (72, .iconst 0, 1), (73, .iaload, 1), (74, .aload_n 3, 1), (75, .iconst 1, 1), (76, .iaload, 1), (77, .aload_n 3, 1), (78, .iconst 2, 1), (79, .iaload, 1), (80, .aload_n 3, 1), (81, .iconst 3, 1), (82, .iaload, 1), (83, .aload_n 3, 1), (84, .iconst 4, 1), (85, .iaload, 1), (86, .invokevirtual 38, 3), (89, .ifCond .ge 6, 3), (92, .bipush (-99), 2), (94, .ireturn, 1), (95, .iinc 2 20, 3), (98, .goto (-96), 3), (101, .aload_n 0, 1), (102, .aload_n 1, 1), (103, .invokevirtual 28, 3), (106, .invokevirtual 44, 3), (109, .ireturn, 1)]
theorem tL_read : Tb mL_read.2.1 lL_read := Tb.of (by decide +kernel)
def lL_divisor : List (Nat × Instr × Nat) := [(0, .lload_n 2, 1), (1, .lconst 0, 1), (2, .lcmp, 1), (3, .ifCond .ne 7, 3), (6, .lload_n 0, 1), (7, .goto 10, 3), (10, .lload_n 2, 1), (11, .lload_n 0, 1), (12, .lload_n 2, 1), (13, .lrem, 1), (14, .invokestatic 48, 3), (17, .lreturn, 1)]
theorem tL_divisor : Tb mL_divisor.2.1 lL_divisor := Tb.of (by decide +kernel)
def lL_reached : List (Nat × Instr × Nat) := [(0, .aload_n 0, 1), (1, .getfield 52, 3), (4, .newarray .boolean, 2), (6, .astore_n 2, 1), (7, .aload_n 2, 1), (8, .iload_n 1, 1), (9, .iconst 1, 1), (10, .bastore, 1), (11, .iconst 0, 1), (12, .istore_n 3, 1), (13, .iload_n 3, 1), (14, .aload_n 0, 1), (15, .getfield 52, 3), (18, .if_icmp .ge 77, 3), (21, .iconst 0, 1), (22, .istore 4, 2), (24, .iload 4, 2), (26, .aload_n 0, 1), (27, .getfield 52, 3), (30, .if_icmp .ge 59, 3), (33, .iconst 0, 1), (34, .istore 5, 2), (36, .iload 5, 2), (38, .aload_n 0, 1), (39, .getfield 52, 3), (42, .if_icmp .ge 41, 3), (45, .aload_n 2, 1), (46, .iload 5, 2), (48, .dup2, 1), (49, .baload, 1), (50, .aload_n 2, 1), (51, .iload 4, 2), (53, .baload, 1), (54, .ifCond .eq 20, 3), (57, .aload_n 0, 1), (58, .getfield 9, 3), (61, .iload 4, 2), (63, .aaload, 1), (64, .iload 5, 2), (66, .iaload, 1), (67, .ifCond .le 7, 3), (70, .iconst 1, 1), (71, .goto 4, 3), (74, .iconst 0, 1), (75, .ior, 1), (76, .bastore, 1), (77, .iinc 5 1, 3), (80, .goto (-44), 3), (83, .iinc 4 1, 3), (86, .goto (-62), 3), (89, .iinc 3 1, 3), (92, .goto (-79), 3), (95, .aload_n 2, 1), (96, .areturn, 1)]
theorem tL_reached : Tb mL_reached.2.1 lL_reached := Tb.of (by decide +kernel)
def lL_isMean : List (Nat × Instr × Nat) := [(0, .lconst 1, 1), (1, .lstore 6, 2), (3, .iconst 0, 1), (4, .istore 8, 2), (6, .iload 8, 2), (8, .aload_n 0, 1), (9, .getfield 52, 3), (12, .if_icmp .ge 36, 3), (15, .aload 4, 2), (17, .iload 8, 2), (19, .baload, 1), (20, .ifCond .eq 22, 3), (23, .lload 6, 2), (25, .lload 6, 2), (27, .aload_n 2, 1), (28, .iload 8, 2), (30, .laload, 1), (31, .invokestatic 48, 3), (34, .ldiv, 1), (35, .aload_n 2, 1), (36, .iload 8, 2), (38, .laload, 1), (39, .lmul, 1), (40, .lstore 6, 2), (42, .iinc 8 1, 3), (45, .goto (-39), 3), (48, .aload_n 0, 1), (49, .getfield 52, 3), (52, .newarray .long, 2), (54, .astore 8, 2), (56, .iconst 0, 1), (57, .istore 9, 2), (59, .iload 9, 2), (61, .aload_n 0, 1), (62, .getfield 52, 3), (65, .if_icmp .ge 34, 3), (68, .aload 4, 2), (70, .iload 9, 2), (72, .baload, 1), (73, .ifCond .eq 20, 3), (76, .aload 8, 2), (78, .iload 9, 2), (80, .aload_n 1, 1), (81, .iload 9, 2), (83, .laload, 1), (84, .lload 6, 2), (86, .aload_n 2, 1), (87, .iload 9, 2), (89, .laload, 1), (90, .ldiv, 1), (91, .lmul, 1), (92, .lastore, 1), (93, .iinc 9 1, 3), (96, .goto (-37), 3), (99, .iconst 0, 1), (100, .istore 9, 2), (102, .iload 9, 2), (104, .aload_n 0, 1), (105, .getfield 52, 3), (108, .if_icmp .ge 151, 3), (111, .aload 4, 2), (113, .iload 9, 2), (115, .baload, 1), (116, .ifCond .eq 137, 3), (119, .aload_n 3, 1), (120, .iload 9, 2), (122, .baload, 1), (123, .ifCond .eq 6, 3), (126, .goto 127, 3), (129, .lconst 0, 1), (130, .lstore 10, 2), (132, .iconst 0, 1), (133, .istore 12, 2), (135, .iload 12, 2), (137, .aload_n 0, 1), (138, .getfield 52, 3), (141, .if_icmp .ge 90, 3), (144, .lload 10, 2), (146, .aload_n 0, 1), (147, .getfield 9, 3), (150, .iload 9, 2), (152, .aaload, 1), (153, .iload 12, 2), (155, .iaload, 1), (156, .i2l, 1), (157, .aload 8, 2), (159, .iload 12, 2), (161, .laload, 1), (162, .lmul, 1), (163, .iload 5, 2), (165, .ifCond .ne 20, 3), (168, .aload_n 0, 1), (169, .getfield 9, 3), (172, .iload 9, 2), (174, .aaload, 1), (175, .iload 12, 2), (177, .iaload, 1), (178, .i2l, 1), (179, .lload 6, 2), (181, .lmul, 1), (182, .goto 39, 3), (185, .iload 5, 2), (187, .iconst 1, 1), (188, .if_icmp .ne 32, 3), (191, .aload_n 0, 1), (192, .getfield 9, 3), (195, .iload 9, 2), (197, .aaload, 1), (198, .iload 12, 2), (200, .iaload, 1), (201, .i2l, 1), (202, .aload_n 0, 1), (203, .getfield 14, 3), (206, .iload 9, 2), (208, .aaload, 1), (209, .iload 12, 2), (211, .iaload, 1), (212, .i2l, 1), (213, .lmul, 1), (214, .lload 6, 2), (216, .lmul, 1), (217, .goto 4, 3), (220, .lconst 0, 1), (221, .ladd, 1), (222, .ladd, 1), (223, .lstore 10, 2), (225, .iinc 12 1, 3), (228, .goto (-93), 3), (231, .lload 10, 2), (233, .aload_n 0, 1), (234, .getfield 17, 3), (237, .iload 9, 2), (239, .iaload, 1), (240, .i2l, 1), (241, .aload 8, 2), (243, .iload 9, 2), (245, .laload, 1), (246, .lmul, 1), (247, .lcmp, 1), (248, .ifCond .eq 5, 3), (251, .iconst 0, 1), (252, .ireturn, 1), (253, .iinc 9 1, 3), (256, .goto (-154), 3), (259, .iconst 1, 1), (260, .ireturn, 1)]
theorem tL_isMean : Tb mL_isMean.2.1 lL_isMean := Tb.of (by decide +kernel)
def lL_areHits : List (Nat × Instr × Nat) := [(0, .aload_n 0, 1), (1, .iload_n 2, 1), (2, .invokevirtual 56, 3), (5, .astore 4, 2), (7, .aload_n 0, 1), (8, .getfield 52, 3), (11, .newarray .long, 2), (13, .astore 5, 2), (15, .aload_n 0, 1), (16, .getfield 52, 3), (19, .newarray .long, 2), (21, .astore 6, 2), (23, .iconst 0, 1), (24, .istore 7, 2), (26, .iload 7, 2), (28, .aload_n 0, 1), (29, .getfield 52, 3), (32, .if_icmp .ge 106, 3), (35, .aload 4, 2), (37, .iload 7, 2), (39, .baload, 1), (40, .ifCond .ne 6, 3), (43, .goto 89, 3), (46, .aload 5, 2), (48, .iload 7, 2), (50, .iload_n 3, 1), (51, .ifCond .eq 14, 3), (54, .aload_n 1, 1), (55, .iload 7, 2), (57, .iload_n 2, 1), (58, .iconst 0, 1), (59, .invokevirtual 60, 3), (62, .goto 11, 3), (65, .aload_n 1, 1), (66, .iload 7, 2), (68, .iload_n 2, 1), (69, .iconst 0, 1), (70, .invokevirtual 64, 3), (73, .lastore, 1), (74, .aload 6, 2), (76, .iload 7, 2), (78, .iload_n 3, 1), (79, .ifCond .eq 14, 3), (82, .aload_n 1, 1), (83, .iload 7, 2), (85, .iload_n 2, 1), (86, .iconst 1, 1), (87, .invokevirtual 60, 3), (90, .goto 11, 3), (93, .aload_n 1, 1), (94, .iload 7, 2), (96, .iload_n 2, 1), (97, .iconst 1, 1), (98, .invokevirtual 64, 3), (101, .lastore, 1), (102, .aload 6, 2), (104, .iload 7, 2), (106, .laload, 1), (107, .lconst 1, 1), (108, .lcmp, 1), (109, .ifCond .lt 21, 3), (112, .aload 5, 2), (114, .iload 7, 2), (116, .laload, 1), (117, .aload 6, 2), (119, .iload 7, 2), (121, .laload, 1), (122, .invokestatic 48, 3), (125, .lconst 1, 1), (126, .lcmp, 1), (127, .ifCond .eq 5, 3), (130, .iconst 0, 1), (131, .ireturn, 1), (132, .iinc 7 1, 3), (135, .goto (-109), 3), (138, .aload_n 0, 1), (139, .getfield 52, 3), (142, .newarray .boolean, 2), (144, .astore 7, 2), (146, .aload 7, 2), (148, .iload_n 2, 1), (149, .iconst 1, 1), (150, .bastore, 1), (151, .aload 5, 2), (153, .iload_n 2, 1), (154, .laload, 1), (155, .lconst 0, 1), (156, .lcmp, 1), (157, .ifCond .ne 31, 3), (160, .aload_n 0, 1), (161, .aload 5, 2), (163, .aload 6, 2), (165, .aload 7, 2), (167, .aload 4, 2), (169, .iload_n 3, 1), (170, .ifCond .eq 7, 3), (173, .iconst 1, 1), (174, .goto 4, 3), (177, .iconst 0, 1), (178, .invokevirtual 67, 3), (181, .ifCond .eq 7, 3), (184, .iconst 1, 1), (185, .goto 4, 3), (188, .iconst 0, 1), (189, .ireturn, 1)]
theorem tL_areHits : Tb mL_areHits.2.1 lL_areHits := Tb.of (by decide +kernel)
def lL_isAbsorbing : List (Nat × Instr × Nat) := [(0, .aload_n 0, 1), (1, .getfield 71, 3), (4, .iload_n 1, 1), (5, .ishr, 1), (6, .iconst 1, 1), (7, .iand, 1), (8, .iconst 1, 1), (9, .if_icmp .ne 7, 3), (12, .iconst 1, 1), (13, .goto 4, 3), (16, .iconst 0, 1), (17, .ireturn, 1)]
theorem tL_isAbsorbing : Tb mL_isAbsorbing.2.1 lL_isAbsorbing := Tb.of (by decide +kernel)
def lL_areAbsorptions : List (Nat × Instr × Nat) := [(0, .aload_n 0, 1), (1, .getfield 52, 3), (4, .newarray .boolean, 2), (6, .astore_n 3, 1), (7, .aload_n 0, 1), (8, .getfield 52, 3), (11, .newarray .boolean, 2), (13, .astore 4, 2), (15, .aload_n 0, 1), (16, .getfield 52, 3), (19, .newarray .long, 2), (21, .astore 5, 2), (23, .aload_n 0, 1), (24, .getfield 52, 3), (27, .newarray .long, 2), (29, .astore 6, 2), (31, .iconst 0, 1), (32, .istore 7, 2), (34, .iload 7, 2), (36, .aload_n 0, 1), (37, .getfield 52, 3), (40, .if_icmp .ge 141, 3), (43, .aload_n 0, 1), (44, .iload 7, 2), (46, .invokevirtual 56, 3), (49, .astore 8, 2), (51, .iconst 0, 1), (52, .istore 9, 2), (54, .iload 9, 2), (56, .aload_n 0, 1), (57, .getfield 52, 3), (60, .if_icmp .ge 38, 3), (63, .aload_n 3, 1), (64, .iload 7, 2), (66, .dup2, 1), (67, .baload, 1), (68, .aload 8, 2), (70, .iload 9, 2), (72, .baload, 1), (73, .ifCond .eq 16, 3), (76, .aload_n 0, 1), (77, .iload 9, 2), (79, .invokevirtual 74, 3), (82, .ifCond .eq 7, 3), (85, .iconst 1, 1), (86, .goto 4, 3), (89, .iconst 0, 1), (90, .ior, 1), (91, .bastore, 1), (92, .iinc 9 1, 3), (95, .goto (-41), 3), (98, .aload 4, 2), (100, .iload 7, 2), (102, .aload_n 0, 1), (103, .iload 7, 2), (105, .invokevirtual 74, 3), (108, .bastore, 1), (109, .aload_n 3, 1), (110, .iload 7, 2), (112, .baload, 1), (113, .ifCond .ne 6, 3), (116, .goto 59, 3), (119, .aload 5, 2), (121, .iload 7, 2), (123, .aload_n 1, 1), (124, .iload 7, 2), (126, .iload_n 2, 1), (127, .iconst 0, 1), (128, .invokevirtual 78, 3), (131, .lastore, 1), (132, .aload 6, 2), (134, .iload 7, 2), (136, .aload_n 1, 1), (137, .iload 7, 2), (139, .iload_n 2, 1), (140, .iconst 1, 1), (141, .invokevirtual 78, 3), (144, .lastore, 1), (145, .aload 4, 2), (147, .iload 7, 2), (149, .baload, 1), (150, .ifCond .eq 25, 3), (153, .aload 5, 2), (155, .iload 7, 2), (157, .laload, 1), (158, .iload 7, 2), (160, .iload_n 2, 1), (161, .if_icmp .ne 7, 3), (164, .lconst 1, 1), (165, .goto 4, 3), (168, .lconst 0, 1), (169, .lcmp, 1), (170, .ifCond .eq 5, 3), (173, .iconst 0, 1), (174, .ireturn, 1), (175, .iinc 7 1, 3), (178, .goto (-144), 3), (181, .aload_n 0, 1), (182, .aload 5, 2), (184, .aload 6, 2), (186, .aload 4, 2), (188, .aload_n 3, 1), (189, .iconst 2, 1), (190, .invokevirtual 67, 3), (193, .ireturn, 1)]
theorem tL_areAbsorptions : Tb mL_areAbsorptions.2.1 lL_areAbsorptions := Tb.of (by decide +kernel)
def lL_treesOf : List (Nat × Instr × Nat) := [(0, .iload_n 2, 1), (1, .ifCond .ne 5, 3), (4, .lconst 1, 1), (5, .lreturn, 1), (6, .iload_n 1, 1), (7, .aload_n 0, 1), (8, .getfield 81, 3), (11, .if_icmp .ne 5, 3), (14, .lconst 0, 1), (15, .lreturn, 1), (16, .aload_n 3, 1), (17, .aload_n 0, 1), (18, .getfield 21, 3), (21, .iconst 2, 1), (22, .iload_n 1, 1), (23, .imul, 1), (24, .iaload, 1), (25, .iaload, 1), (26, .istore 4, 2), (28, .aload_n 3, 1), (29, .aload_n 0, 1), (30, .getfield 21, 3), (33, .iconst 2, 1), (34, .iload_n 1, 1), (35, .imul, 1), (36, .iconst 1, 1), (37, .iadd, 1), (38, .iaload, 1), (39, .iaload, 1), (40, .istore 5, 2), (42, .aload_n 0, 1), (43, .iload_n 1, 1), (44, .iconst 1, 1), (45, .iadd, 1), (46, .iload_n 2, 1), (47, .aload_n 3, 1), (48, .invokevirtual 84, 3), (51, .lstore 6, 2), (53, .iload 4, 2), (55, .iload 5, 2), (57, .if_icmp .ne 6, 3), (60, .lload 6, 2), (62, .lreturn, 1), (63, .aload_n 3, 1), (64, .invokevirtual 88, 3), (67, .checkcast 89, 3), (70, .astore 8, 2), (72, .iconst 0, 1), (73, .istore 9, 2), (75, .iload 9, 2), (77, .aload_n 0, 1), (78, .getfield 52, 3), (81, .if_icmp .ge 26, 3), (84, .aload 8, 2), (86, .iload 9, 2), (88, .iaload, 1), (89, .iload 5, 2), (91, .if_icmp .ne 10, 3), (94, .aload 8, 2), (96, .iload 9, 2), (98, .iload 4, 2), (100, .iastore, 1), (101, .iinc 9 1, 3), (104, .goto (-29), 3), (107, .lload 6, 2), (109, .aload_n 0, 1), (110, .getfield 24, 3), (113, .iload_n 1, 1), (114, .iaload, 1), (115, .i2l, 1), (116, .aload_n 0, 1), (117, .iload_n 1, 1), (118, .iconst 1, 1), (119, .iadd, 1), (120, .iload_n 2, 1), (121, .iconst 1, 1), (122, .isub, 1), (123, .aload 8, 2), (125, .invokevirtual 84, 3), (128, .lmul, 1), (129, .ladd, 1), (130, .lreturn, 1)]
theorem tL_treesOf : Tb mL_treesOf.2.1 lL_treesOf := Tb.of (by decide +kernel)
def lL_areWalks : List (Nat × Instr × Nat) := [(0, .iload 4, 2), (2, .i2l, 1), (3, .lstore 5, 2), (5, .iload_n 2, 1), (6, .istore 7, 2), (8, .iconst 0, 1), (9, .istore 8, 2), (11, .iconst 1, 1), (12, .iload_n 2, 1), (13, .ishl, 1), (14, .istore 9, 2), (16, .aload_n 0, 1), (17, .iload_n 2, 1), (18, .invokevirtual 74, 3), (21, .ifCond .eq 7, 3), (24, .iconst 0, 1), (25, .goto 4, 3), (28, .iconst (-1), 1), (29, .istore 10, 2), (31, .iconst 1, 1), (32, .istore 11, 2), (34, .iload 11, 2), (36, .iload_n 3, 1), (37, .if_icmp .gt 154, 3), (40, .aload_n 0, 1), (41, .getfield 17, 3), (44, .iload 7, 2), (46, .iaload, 1), (47, .ifCond .le 111, 3), (50, .lload 5, 2), (52, .ldc2_w 93, 3), (55, .lmul, 1), (56, .ldc2_w 95, 3), (59, .ladd, 1), (60, .ldc2_w 97, 3), (63, .lrem, 1), (64, .lstore 5, 2), (66, .lload 5, 2), (68, .bipush 16, 2), (70, .lshr, 1), (71, .aload_n 0, 1), (72, .getfield 17, 3), (75, .iload 7, 2), (77, .iaload, 1), (78, .i2l, 1), (79, .lrem, 1), (80, .lstore 12, 2), (82, .lconst 0, 1), (83, .lstore 14, 2), (85, .iconst (-1), 1), (86, .istore 16, 2), (88, .iconst 0, 1), (89, .istore 17, 2), (91, .iload 17, 2), (93, .aload_n 0, 1), (94, .getfield 52, 3), (97, .if_icmp .ge 42, 3), (100, .lload 14, 2), (102, .aload_n 0, 1), (103, .getfield 9, 3), (106, .iload 7, 2), (108, .aaload, 1), (109, .iload 17, 2), (111, .iaload, 1), (112, .i2l, 1), (113, .ladd, 1), (114, .lstore 14, 2), (116, .iload 16, 2), (118, .ifCond .ge 15, 3), (121, .lload 14, 2), (123, .lload 12, 2), (125, .lcmp, 1), (126, .ifCond .le 7, 3), (129, .iload 17, 2), (131, .istore 16, 2), (133, .iinc 17 1, 3), (136, .goto (-45), 3), (139, .iload 8, 2), (141, .aload_n 0, 1), (142, .getfield 14, 3), (145, .iload 7, 2), (147, .aaload, 1), (148, .iload 16, 2), (150, .iaload, 1), (151, .iadd, 1), (152, .istore 8, 2), (154, .iload 16, 2), (156, .istore 7, 2), (158, .iload 9, 2), (160, .iconst 1, 1), (161, .iload 7, 2), (163, .ishl, 1), (164, .ior, 1), (165, .istore 9, 2), (167, .iload 10, 2), (169, .ifCond .ge 16, 3), (172, .aload_n 0, 1), (173, .iload 7, 2), (175, .invokevirtual 74, 3), (178, .ifCond .eq 7, 3), (181, .iload 11, 2), (183, .istore 10, 2), (185, .iinc 11 1, 3), (188, .goto (-154), 3), (191, .aload_n 1, 1), (192, .iload_n 2, 1), (193, .iload_n 3, 1), (194, .iload 4, 2), (196, .iconst 0, 1), (197, .invokevirtual 99, 3), (200, .iload 7, 2), (202, .if_icmp .ne 49, 3), (205, .aload_n 1, 1), (206, .iload_n 2, 1), (207, .iload_n 3, 1), (208, .iload 4, 2), (210, .iconst 1, 1), (211, .invokevirtual 99, 3), (214, .iload 9, 2), (216, .if_icmp .ne 35, 3), (219, .aload_n 1, 1), (220, .iload_n 2, 1), (221, .iload_n 3, 1), (222, .iload 4, 2), (224, .iconst 2, 1), (225, .invokevirtual 99, 3), (228, .iload 8, 2), (230, .if_icmp .ne 21, 3), (233, .aload_n 1, 1), (234, .iload_n 2, 1), (235, .iload_n 3, 1), (236, .iload 4, 2), (238, .iconst 3, 1), (239, .invokevirtual 99, 3), (242, .iload 10, 2), (244, .if_icmp .ne 7, 3), (247, .iconst 1, 1), (248, .goto 4, 3), (251, .iconst 0, 1), (252, .ireturn, 1)]
theorem tL_areWalks : Tb mL_areWalks.2.1 lL_areWalks := Tb.of (by decide +kernel)
end
