section
-- ===== PART A: goes FIRST, ahead of the names: the tables' words, and 'selects' of the private methods out of them =====
/-- a private method of a class that the tables say can be made, by its rows of tables_1 -/
def lw_okq (q : MethodName × Nat) : Prop := (q.1.cls ≠ "java/lang/invoke/MethodHandle" ∧ q.1.cls ≠ "java/lang/invoke/VarHandle") ∧ Cond.instantiable q.1.cls q.2 ∈ tables_1 ∧ Cond.privateMethod q.1 ∈ tables_1 ∧ Cond.instanceMethod q.1 ∈ tables_1
theorem lw_p0 : lw_okq (⟨"Treequery$Tree", "following", "(I)I"⟩, 11) := ⟨⟨by decide +kernel, by decide +kernel⟩, List.mem_of_getElem? (i := 32) (by decide +kernel), List.mem_of_getElem? (i := 381) (by decide +kernel), List.mem_of_getElem? (i := 382) (by decide +kernel)⟩
theorem lw_p1 : lw_okq (⟨"Treequery$Schema", "isOfType", "(LTreequery$Tree;II)Z"⟩, 11) := ⟨⟨by decide +kernel, by decide +kernel⟩, List.mem_of_getElem? (i := 277) (by decide +kernel), List.mem_of_getElem? (i := 581) (by decide +kernel), List.mem_of_getElem? (i := 582) (by decide +kernel)⟩
theorem lw_p2 : lw_okq (⟨"Treequery$Schema", "isAccepted", "(JI)Z"⟩, 11) := ⟨⟨by decide +kernel, by decide +kernel⟩, List.mem_of_getElem? (i := 277) (by decide +kernel), List.mem_of_getElem? (i := 593) (by decide +kernel), List.mem_of_getElem? (i := 594) (by decide +kernel)⟩
theorem lw_p3 : lw_okq (⟨"Treequery$Schema", "statesBehind", "(III)I"⟩, 11) := ⟨⟨by decide +kernel, by decide +kernel⟩, List.mem_of_getElem? (i := 277) (by decide +kernel), List.mem_of_getElem? (i := 599) (by decide +kernel), List.mem_of_getElem? (i := 600) (by decide +kernel)⟩
theorem lw_p4 : lw_okq (⟨"Treequery", "needPlaceIn", "(II)V"⟩, 19) := ⟨⟨by decide +kernel, by decide +kernel⟩, List.mem_of_getElem? (i := 24) (by decide +kernel), List.mem_of_getElem? (i := 621) (by decide +kernel), List.mem_of_getElem? (i := 622) (by decide +kernel)⟩
theorem lw_p5 : lw_okq (⟨"Treequery", "needNode", "(I)V"⟩, 19) := ⟨⟨by decide +kernel, by decide +kernel⟩, List.mem_of_getElem? (i := 24) (by decide +kernel), List.mem_of_getElem? (i := 625) (by decide +kernel), List.mem_of_getElem? (i := 626) (by decide +kernel)⟩
theorem lw_p6 : lw_okq (⟨"java/lang/Throwable", "fillInStackTrace", "(I)Ljava/lang/Throwable;"⟩, 6) := ⟨⟨by decide +kernel, by decide +kernel⟩, List.mem_of_getElem? (i := 667) (by decide +kernel), List.mem_of_getElem? (i := 665) (by decide +kernel), List.mem_of_getElem? (i := 666) (by decide +kernel)⟩
theorem lw_p7 : lw_okq (⟨"Treequery", "needRange", "(III)V"⟩, 19) := ⟨⟨by decide +kernel, by decide +kernel⟩, List.mem_of_getElem? (i := 24) (by decide +kernel), List.mem_of_getElem? (i := 703) (by decide +kernel), List.mem_of_getElem? (i := 704) (by decide +kernel)⟩
theorem lw_p8 : lw_okq (⟨"Treequery", "needElement", "(I)V"⟩, 19) := ⟨⟨by decide +kernel, by decide +kernel⟩, List.mem_of_getElem? (i := 24) (by decide +kernel), List.mem_of_getElem? (i := 723) (by decide +kernel), List.mem_of_getElem? (i := 724) (by decide +kernel)⟩
theorem lw_p9 : lw_okq (⟨"Treequery", "needRoom", "()V"⟩, 19) := ⟨⟨by decide +kernel, by decide +kernel⟩, List.mem_of_getElem? (i := 24) (by decide +kernel), List.mem_of_getElem? (i := 744) (by decide +kernel), List.mem_of_getElem? (i := 745) (by decide +kernel)⟩
theorem lw_p10 : lw_okq (⟨"Treequery$Updates", "add", "(IIII)I"⟩, 12) := ⟨⟨by decide +kernel, by decide +kernel⟩, List.mem_of_getElem? (i := 158) (by decide +kernel), List.mem_of_getElem? (i := 758) (by decide +kernel), List.mem_of_getElem? (i := 759) (by decide +kernel)⟩
theorem lw_p11 : lw_okq (⟨"Treequery$Updates", "isStale", "(LTreequery$Tree;I)Z"⟩, 12) := ⟨⟨by decide +kernel, by decide +kernel⟩, List.mem_of_getElem? (i := 158) (by decide +kernel), List.mem_of_getElem? (i := 834) (by decide +kernel), List.mem_of_getElem? (i := 835) (by decide +kernel)⟩
theorem lw_p12 : lw_okq (⟨"Treequery$Updates", "hasClash", "(I)Z"⟩, 12) := ⟨⟨by decide +kernel, by decide +kernel⟩, List.mem_of_getElem? (i := 158) (by decide +kernel), List.mem_of_getElem? (i := 841) (by decide +kernel), List.mem_of_getElem? (i := 842) (by decide +kernel)⟩
theorem lw_p13 : lw_okq (⟨"Treequery$Updates", "change", "(LTreequery$Tree;I)V"⟩, 12) := ⟨⟨by decide +kernel, by decide +kernel⟩, List.mem_of_getElem? (i := 158) (by decide +kernel), List.mem_of_getElem? (i := 869) (by decide +kernel), List.mem_of_getElem? (i := 870) (by decide +kernel)⟩
theorem lw_p14 : lw_okq (⟨"Treequery$Updates", "linkAttributes", "(LTreequery$Tree;LTreequery$Tree;I)V"⟩, 12) := ⟨⟨by decide +kernel, by decide +kernel⟩, List.mem_of_getElem? (i := 158) (by decide +kernel), List.mem_of_getElem? (i := 878) (by decide +kernel), List.mem_of_getElem? (i := 879) (by decide +kernel)⟩
theorem lw_p15 : lw_okq (⟨"Treequery$Updates", "isInto", "(III)Z"⟩, 12) := ⟨⟨by decide +kernel, by decide +kernel⟩, List.mem_of_getElem? (i := 158) (by decide +kernel), List.mem_of_getElem? (i := 890) (by decide +kernel), List.mem_of_getElem? (i := 891) (by decide +kernel)⟩
def lw_privs_1 : List (MethodName × Nat) := [(⟨"Treequery$Tree", "following", "(I)I"⟩, 11), (⟨"Treequery$Schema", "isOfType", "(LTreequery$Tree;II)Z"⟩, 11), (⟨"Treequery$Schema", "isAccepted", "(JI)Z"⟩, 11), (⟨"Treequery$Schema", "statesBehind", "(III)I"⟩, 11), (⟨"Treequery", "needPlaceIn", "(II)V"⟩, 19), (⟨"Treequery", "needNode", "(I)V"⟩, 19), (⟨"java/lang/Throwable", "fillInStackTrace", "(I)Ljava/lang/Throwable;"⟩, 6), (⟨"Treequery", "needRange", "(III)V"⟩, 19), (⟨"Treequery", "needElement", "(I)V"⟩, 19), (⟨"Treequery", "needRoom", "()V"⟩, 19), (⟨"Treequery$Updates", "add", "(IIII)I"⟩, 12), (⟨"Treequery$Updates", "isStale", "(LTreequery$Tree;I)Z"⟩, 12), (⟨"Treequery$Updates", "hasClash", "(I)Z"⟩, 12), (⟨"Treequery$Updates", "change", "(LTreequery$Tree;I)V"⟩, 12), (⟨"Treequery$Updates", "linkAttributes", "(LTreequery$Tree;LTreequery$Tree;I)V"⟩, 12), (⟨"Treequery$Updates", "isInto", "(III)Z"⟩, 12)]
theorem lw_r1 : ∀ q ∈ lw_privs_1, lw_okq q := List.forall_mem_cons.mpr ⟨lw_p0, List.forall_mem_cons.mpr ⟨lw_p1, List.forall_mem_cons.mpr ⟨lw_p2, List.forall_mem_cons.mpr ⟨lw_p3, List.forall_mem_cons.mpr ⟨lw_p4, List.forall_mem_cons.mpr ⟨lw_p5, List.forall_mem_cons.mpr ⟨lw_p6, List.forall_mem_cons.mpr ⟨lw_p7, List.forall_mem_cons.mpr ⟨lw_p8, List.forall_mem_cons.mpr ⟨lw_p9, List.forall_mem_cons.mpr ⟨lw_p10, List.forall_mem_cons.mpr ⟨lw_p11, List.forall_mem_cons.mpr ⟨lw_p12, List.forall_mem_cons.mpr ⟨lw_p13, List.forall_mem_cons.mpr ⟨lw_p14, List.forall_mem_cons.mpr ⟨lw_p15, fun _ h => absurd h List.not_mem_nil⟩⟩⟩⟩⟩⟩⟩⟩⟩⟩⟩⟩⟩⟩⟩⟩
theorem lw_p16 : lw_okq (⟨"Treequery$Updates", "linkChildren", "(LTreequery$Tree;LTreequery$Tree;I)V"⟩, 12) := ⟨⟨by decide +kernel, by decide +kernel⟩, List.mem_of_getElem? (i := 158) (by decide +kernel), List.mem_of_getElem? (i := 894) (by decide +kernel), List.mem_of_getElem? (i := 895) (by decide +kernel)⟩
theorem lw_p17 : lw_okq (⟨"Treequery$Tree", "numberRow", "(JII)Z"⟩, 11) := ⟨⟨by decide +kernel, by decide +kernel⟩, List.mem_of_getElem? (i := 32) (by decide +kernel), List.mem_of_getElem? (i := 934) (by decide +kernel), List.mem_of_getElem? (i := 935) (by decide +kernel)⟩
theorem lw_p18 : lw_okq (⟨"Treequery", "settle", "()V"⟩, 19) := ⟨⟨by decide +kernel, by decide +kernel⟩, List.mem_of_getElem? (i := 24) (by decide +kernel), List.mem_of_getElem? (i := 938) (by decide +kernel), List.mem_of_getElem? (i := 939) (by decide +kernel)⟩
theorem lw_p19 : lw_okq (⟨"Treequery$Finder", "takeStep", "(II)V"⟩, 8) := ⟨⟨by decide +kernel, by decide +kernel⟩, List.mem_of_getElem? (i := 242) (by decide +kernel), List.mem_of_getElem? (i := 957) (by decide +kernel), List.mem_of_getElem? (i := 958) (by decide +kernel)⟩
theorem lw_p20 : lw_okq (⟨"Treequery$Finder", "reachByPath", "(IJ)V"⟩, 8) := ⟨⟨by decide +kernel, by decide +kernel⟩, List.mem_of_getElem? (i := 242) (by decide +kernel), List.mem_of_getElem? (i := 974) (by decide +kernel), List.mem_of_getElem? (i := 975) (by decide +kernel)⟩
theorem lw_p21 : lw_okq (⟨"Treequery$Finder", "reachByAxis", "(IJ)V"⟩, 8) := ⟨⟨by decide +kernel, by decide +kernel⟩, List.mem_of_getElem? (i := 242) (by decide +kernel), List.mem_of_getElem? (i := 985) (by decide +kernel), List.mem_of_getElem? (i := 986) (by decide +kernel)⟩
theorem lw_p22 : lw_okq (⟨"Treequery$Finder", "siftByPlace", "(IZ)V"⟩, 8) := ⟨⟨by decide +kernel, by decide +kernel⟩, List.mem_of_getElem? (i := 242) (by decide +kernel), List.mem_of_getElem? (i := 1008) (by decide +kernel), List.mem_of_getElem? (i := 1009) (by decide +kernel)⟩
theorem lw_p23 : lw_okq (⟨"Treequery$Finder", "worthy", "(I)J"⟩, 8) := ⟨⟨by decide +kernel, by decide +kernel⟩, List.mem_of_getElem? (i := 242) (by decide +kernel), List.mem_of_getElem? (i := 1027) (by decide +kernel), List.mem_of_getElem? (i := 1028) (by decide +kernel)⟩
theorem lw_p24 : lw_okq (⟨"Treequery$Finder", "siftByTruth", "(IJ)V"⟩, 8) := ⟨⟨by decide +kernel, by decide +kernel⟩, List.mem_of_getElem? (i := 242) (by decide +kernel), List.mem_of_getElem? (i := 1033) (by decide +kernel), List.mem_of_getElem? (i := 1034) (by decide +kernel)⟩
theorem lw_p25 : lw_okq (⟨"Treequery", "viewedNodes", "(I)J"⟩, 19) := ⟨⟨by decide +kernel, by decide +kernel⟩, List.mem_of_getElem? (i := 24) (by decide +kernel), List.mem_of_getElem? (i := 1042) (by decide +kernel), List.mem_of_getElem? (i := 1043) (by decide +kernel)⟩
theorem lw_p26 : lw_okq (⟨"Treequery", "needNotNegative", "(I)V"⟩, 19) := ⟨⟨by decide +kernel, by decide +kernel⟩, List.mem_of_getElem? (i := 24) (by decide +kernel), List.mem_of_getElem? (i := 1101) (by decide +kernel), List.mem_of_getElem? (i := 1102) (by decide +kernel)⟩
theorem lw_p27 : lw_okq (⟨"Treequery", "needPath", "(I)V"⟩, 19) := ⟨⟨by decide +kernel, by decide +kernel⟩, List.mem_of_getElem? (i := 24) (by decide +kernel), List.mem_of_getElem? (i := 1145) (by decide +kernel), List.mem_of_getElem? (i := 1146) (by decide +kernel)⟩
theorem lw_p28 : lw_okq (⟨"Treequery", "needLower", "(II)V"⟩, 19) := ⟨⟨by decide +kernel, by decide +kernel⟩, List.mem_of_getElem? (i := 24) (by decide +kernel), List.mem_of_getElem? (i := 1150) (by decide +kernel), List.mem_of_getElem? (i := 1151) (by decide +kernel)⟩
theorem lw_p29 : lw_okq (⟨"Treequery", "needOpenPath", "(I)V"⟩, 19) := ⟨⟨by decide +kernel, by decide +kernel⟩, List.mem_of_getElem? (i := 24) (by decide +kernel), List.mem_of_getElem? (i := 1156) (by decide +kernel), List.mem_of_getElem? (i := 1157) (by decide +kernel)⟩
theorem lw_p30 : lw_okq (⟨"Treequery", "noteChangeOf", "(I)V"⟩, 19) := ⟨⟨by decide +kernel, by decide +kernel⟩, List.mem_of_getElem? (i := 24) (by decide +kernel), List.mem_of_getElem? (i := 1164) (by decide +kernel), List.mem_of_getElem? (i := 1165) (by decide +kernel)⟩
theorem lw_p31 : lw_okq (⟨"Treequery", "needOpenStep", "(I)V"⟩, 19) := ⟨⟨by decide +kernel, by decide +kernel⟩, List.mem_of_getElem? (i := 24) (by decide +kernel), List.mem_of_getElem? (i := 1187) (by decide +kernel), List.mem_of_getElem? (i := 1188) (by decide +kernel)⟩
def lw_privs_2 : List (MethodName × Nat) := [(⟨"Treequery$Updates", "linkChildren", "(LTreequery$Tree;LTreequery$Tree;I)V"⟩, 12), (⟨"Treequery$Tree", "numberRow", "(JII)Z"⟩, 11), (⟨"Treequery", "settle", "()V"⟩, 19), (⟨"Treequery$Finder", "takeStep", "(II)V"⟩, 8), (⟨"Treequery$Finder", "reachByPath", "(IJ)V"⟩, 8), (⟨"Treequery$Finder", "reachByAxis", "(IJ)V"⟩, 8), (⟨"Treequery$Finder", "siftByPlace", "(IZ)V"⟩, 8), (⟨"Treequery$Finder", "worthy", "(I)J"⟩, 8), (⟨"Treequery$Finder", "siftByTruth", "(IJ)V"⟩, 8), (⟨"Treequery", "viewedNodes", "(I)J"⟩, 19), (⟨"Treequery", "needNotNegative", "(I)V"⟩, 19), (⟨"Treequery", "needPath", "(I)V"⟩, 19), (⟨"Treequery", "needLower", "(II)V"⟩, 19), (⟨"Treequery", "needOpenPath", "(I)V"⟩, 19), (⟨"Treequery", "noteChangeOf", "(I)V"⟩, 19), (⟨"Treequery", "needOpenStep", "(I)V"⟩, 19)]
theorem lw_r2 : ∀ q ∈ lw_privs_2, lw_okq q := List.forall_mem_cons.mpr ⟨lw_p16, List.forall_mem_cons.mpr ⟨lw_p17, List.forall_mem_cons.mpr ⟨lw_p18, List.forall_mem_cons.mpr ⟨lw_p19, List.forall_mem_cons.mpr ⟨lw_p20, List.forall_mem_cons.mpr ⟨lw_p21, List.forall_mem_cons.mpr ⟨lw_p22, List.forall_mem_cons.mpr ⟨lw_p23, List.forall_mem_cons.mpr ⟨lw_p24, List.forall_mem_cons.mpr ⟨lw_p25, List.forall_mem_cons.mpr ⟨lw_p26, List.forall_mem_cons.mpr ⟨lw_p27, List.forall_mem_cons.mpr ⟨lw_p28, List.forall_mem_cons.mpr ⟨lw_p29, List.forall_mem_cons.mpr ⟨lw_p30, List.forall_mem_cons.mpr ⟨lw_p31, fun _ h => absurd h List.not_mem_nil⟩⟩⟩⟩⟩⟩⟩⟩⟩⟩⟩⟩⟩⟩⟩⟩
theorem lw_p32 : lw_okq (⟨"Treequery", "refreshedReader", "()LTreequery$Finder;"⟩, 19) := ⟨⟨by decide +kernel, by decide +kernel⟩, List.mem_of_getElem? (i := 24) (by decide +kernel), List.mem_of_getElem? (i := 1230) (by decide +kernel), List.mem_of_getElem? (i := 1231) (by decide +kernel)⟩
theorem lw_p33 : lw_okq (⟨"Treequery", "needStart", "(LTreequery$Finder;I)V"⟩, 19) := ⟨⟨by decide +kernel, by decide +kernel⟩, List.mem_of_getElem? (i := 24) (by decide +kernel), List.mem_of_getElem? (i := 1237) (by decide +kernel), List.mem_of_getElem? (i := 1238) (by decide +kernel)⟩
theorem lw_p34 : lw_okq (⟨"Treequery", "needPlaceOf", "(JI)V"⟩, 19) := ⟨⟨by decide +kernel, by decide +kernel⟩, List.mem_of_getElem? (i := 24) (by decide +kernel), List.mem_of_getElem? (i := 1261) (by decide +kernel), List.mem_of_getElem? (i := 1262) (by decide +kernel)⟩
theorem lw_p35 : lw_okq (⟨"Treequery$Finder", "countAhead", "(JI)I"⟩, 8) := ⟨⟨by decide +kernel, by decide +kernel⟩, List.mem_of_getElem? (i := 242) (by decide +kernel), List.mem_of_getElem? (i := 1278) (by decide +kernel), List.mem_of_getElem? (i := 1279) (by decide +kernel)⟩
theorem lw_p36 : lw_okq (⟨"Treequery$Finder", "isFirstOfValue", "(JI)Z"⟩, 8) := ⟨⟨by decide +kernel, by decide +kernel⟩, List.mem_of_getElem? (i := 242) (by decide +kernel), List.mem_of_getElem? (i := 1295) (by decide +kernel), List.mem_of_getElem? (i := 1296) (by decide +kernel)⟩
theorem lw_p37 : lw_okq (⟨"Treequery", "needIndex", "(II)V"⟩, 19) := ⟨⟨by decide +kernel, by decide +kernel⟩, List.mem_of_getElem? (i := 24) (by decide +kernel), List.mem_of_getElem? (i := 1306) (by decide +kernel), List.mem_of_getElem? (i := 1307) (by decide +kernel)⟩
theorem lw_p38 : lw_okq (⟨"Treequery", "needLooseSchema", "()V"⟩, 19) := ⟨⟨by decide +kernel, by decide +kernel⟩, List.mem_of_getElem? (i := 24) (by decide +kernel), List.mem_of_getElem? (i := 1311) (by decide +kernel), List.mem_of_getElem? (i := 1312) (by decide +kernel)⟩
theorem lw_p39 : lw_okq (⟨"Treequery$Schema", "learn", "()V"⟩, 11) := ⟨⟨by decide +kernel, by decide +kernel⟩, List.mem_of_getElem? (i := 277) (by decide +kernel), List.mem_of_getElem? (i := 1395) (by decide +kernel), List.mem_of_getElem? (i := 1396) (by decide +kernel)⟩
theorem lw_p40 : lw_okq (⟨"Treequery$Schema", "possible", "(I)I"⟩, 11) := ⟨⟨by decide +kernel, by decide +kernel⟩, List.mem_of_getElem? (i := 277) (by decide +kernel), List.mem_of_getElem? (i := 1400) (by decide +kernel), List.mem_of_getElem? (i := 1401) (by decide +kernel)⟩
theorem lw_p41 : lw_okq (⟨"Treequery$Schema", "tellStep", "(LTreequery$Paths;II)I"⟩, 11) := ⟨⟨by decide +kernel, by decide +kernel⟩, List.mem_of_getElem? (i := 277) (by decide +kernel), List.mem_of_getElem? (i := 1411) (by decide +kernel), List.mem_of_getElem? (i := 1412) (by decide +kernel)⟩
theorem lw_p42 : lw_okq (⟨"Treequery$Schema", "tellAxis", "(II)I"⟩, 11) := ⟨⟨by decide +kernel, by decide +kernel⟩, List.mem_of_getElem? (i := 277) (by decide +kernel), List.mem_of_getElem? (i := 1417) (by decide +kernel), List.mem_of_getElem? (i := 1418) (by decide +kernel)⟩
theorem lw_p43 : lw_okq (⟨"Treequery$Schema", "tellTest", "(I)I"⟩, 11) := ⟨⟨by decide +kernel, by decide +kernel⟩, List.mem_of_getElem? (i := 277) (by decide +kernel), List.mem_of_getElem? (i := 1422) (by decide +kernel), List.mem_of_getElem? (i := 1423) (by decide +kernel)⟩
theorem lw_p44 : lw_okq (⟨"Treequery$Paths", "isTellableAtOnce", "(I)Z"⟩, 10) := ⟨⟨by decide +kernel, by decide +kernel⟩, List.mem_of_getElem? (i := 203) (by decide +kernel), List.mem_of_getElem? (i := 1454) (by decide +kernel), List.mem_of_getElem? (i := 1455) (by decide +kernel)⟩
theorem lw_p45 : lw_okq (⟨"Treequery$Paths", "staysAtNode", "(I)Z"⟩, 10) := ⟨⟨by decide +kernel, by decide +kernel⟩, List.mem_of_getElem? (i := 203) (by decide +kernel), List.mem_of_getElem? (i := 1458) (by decide +kernel), List.mem_of_getElem? (i := 1459) (by decide +kernel)⟩
theorem lw_p46 : lw_okq (⟨"Treequery$Tree", "isRanked", "(JI)Z"⟩, 11) := ⟨⟨by decide +kernel, by decide +kernel⟩, List.mem_of_getElem? (i := 32) (by decide +kernel), List.mem_of_getElem? (i := 1500) (by decide +kernel), List.mem_of_getElem? (i := 1501) (by decide +kernel)⟩
theorem lw_p47 : lw_okq (⟨"Treequery$Tree", "countAhead", "(JI)I"⟩, 11) := ⟨⟨by decide +kernel, by decide +kernel⟩, List.mem_of_getElem? (i := 32) (by decide +kernel), List.mem_of_getElem? (i := 1504) (by decide +kernel), List.mem_of_getElem? (i := 1505) (by decide +kernel)⟩
def lw_privs_3 : List (MethodName × Nat) := [(⟨"Treequery", "refreshedReader", "()LTreequery$Finder;"⟩, 19), (⟨"Treequery", "needStart", "(LTreequery$Finder;I)V"⟩, 19), (⟨"Treequery", "needPlaceOf", "(JI)V"⟩, 19), (⟨"Treequery$Finder", "countAhead", "(JI)I"⟩, 8), (⟨"Treequery$Finder", "isFirstOfValue", "(JI)Z"⟩, 8), (⟨"Treequery", "needIndex", "(II)V"⟩, 19), (⟨"Treequery", "needLooseSchema", "()V"⟩, 19), (⟨"Treequery$Schema", "learn", "()V"⟩, 11), (⟨"Treequery$Schema", "possible", "(I)I"⟩, 11), (⟨"Treequery$Schema", "tellStep", "(LTreequery$Paths;II)I"⟩, 11), (⟨"Treequery$Schema", "tellAxis", "(II)I"⟩, 11), (⟨"Treequery$Schema", "tellTest", "(I)I"⟩, 11), (⟨"Treequery$Paths", "isTellableAtOnce", "(I)Z"⟩, 10), (⟨"Treequery$Paths", "staysAtNode", "(I)Z"⟩, 10), (⟨"Treequery$Tree", "isRanked", "(JI)Z"⟩, 11), (⟨"Treequery$Tree", "countAhead", "(JI)I"⟩, 11)]
theorem lw_r3 : ∀ q ∈ lw_privs_3, lw_okq q := List.forall_mem_cons.mpr ⟨lw_p32, List.forall_mem_cons.mpr ⟨lw_p33, List.forall_mem_cons.mpr ⟨lw_p34, List.forall_mem_cons.mpr ⟨lw_p35, List.forall_mem_cons.mpr ⟨lw_p36, List.forall_mem_cons.mpr ⟨lw_p37, List.forall_mem_cons.mpr ⟨lw_p38, List.forall_mem_cons.mpr ⟨lw_p39, List.forall_mem_cons.mpr ⟨lw_p40, List.forall_mem_cons.mpr ⟨lw_p41, List.forall_mem_cons.mpr ⟨lw_p42, List.forall_mem_cons.mpr ⟨lw_p43, List.forall_mem_cons.mpr ⟨lw_p44, List.forall_mem_cons.mpr ⟨lw_p45, List.forall_mem_cons.mpr ⟨lw_p46, List.forall_mem_cons.mpr ⟨lw_p47, fun _ h => absurd h List.not_mem_nil⟩⟩⟩⟩⟩⟩⟩⟩⟩⟩⟩⟩⟩⟩⟩⟩
theorem lw_p48 : lw_okq (⟨"Treequery$Tree", "lead", "(JII)I"⟩, 11) := ⟨⟨by decide +kernel, by decide +kernel⟩, List.mem_of_getElem? (i := 32) (by decide +kernel), List.mem_of_getElem? (i := 1508) (by decide +kernel), List.mem_of_getElem? (i := 1509) (by decide +kernel)⟩
theorem lw_p49 : lw_okq (⟨"Treequery", "neededVersion", "(I)LTreequery$Tree;"⟩, 19) := ⟨⟨by decide +kernel, by decide +kernel⟩, List.mem_of_getElem? (i := 24) (by decide +kernel), List.mem_of_getElem? (i := 1527) (by decide +kernel), List.mem_of_getElem? (i := 1528) (by decide +kernel)⟩
theorem lw_p50 : lw_okq (⟨"Treequery$Edits", "compare", "(LTreequery$Tree;LTreequery$Tree;II)V"⟩, 7) := ⟨⟨by decide +kernel, by decide +kernel⟩, List.mem_of_getElem? (i := 1545) (by decide +kernel), List.mem_of_getElem? (i := 1603) (by decide +kernel), List.mem_of_getElem? (i := 1604) (by decide +kernel)⟩
theorem lw_p51 : lw_okq (⟨"Treequery$Edits", "compareForests", "(IIIII)V"⟩, 7) := ⟨⟨by decide +kernel, by decide +kernel⟩, List.mem_of_getElem? (i := 1545) (by decide +kernel), List.mem_of_getElem? (i := 1611) (by decide +kernel), List.mem_of_getElem? (i := 1612) (by decide +kernel)⟩
theorem lw_p52 : lw_okq (⟨"TreequeryModel", "arrange", "()V"⟩, 61) := ⟨⟨by decide +kernel, by decide +kernel⟩, List.mem_of_getElem? (i := 1647) (by decide +kernel), List.mem_of_getElem? (i := 1653) (by decide +kernel), List.mem_of_getElem? (i := 1654) (by decide +kernel)⟩
theorem lw_p53 : lw_okq (⟨"TreequeryModel", "attributeOf", "(II)I"⟩, 61) := ⟨⟨by decide +kernel, by decide +kernel⟩, List.mem_of_getElem? (i := 1647) (by decide +kernel), List.mem_of_getElem? (i := 1657) (by decide +kernel), List.mem_of_getElem? (i := 1658) (by decide +kernel)⟩
theorem lw_p54 : lw_okq (⟨"TreequeryModel", "childCount", "(I)I"⟩, 61) := ⟨⟨by decide +kernel, by decide +kernel⟩, List.mem_of_getElem? (i := 1647) (by decide +kernel), List.mem_of_getElem? (i := 1661) (by decide +kernel), List.mem_of_getElem? (i := 1662) (by decide +kernel)⟩
theorem lw_p55 : lw_okq (⟨"TreequeryModel", "childAt", "(II)I"⟩, 61) := ⟨⟨by decide +kernel, by decide +kernel⟩, List.mem_of_getElem? (i := 1647) (by decide +kernel), List.mem_of_getElem? (i := 1665) (by decide +kernel), List.mem_of_getElem? (i := 1666) (by decide +kernel)⟩
theorem lw_p56 : lw_okq (⟨"TreequeryModel", "isSpot", "(II)Z"⟩, 61) := ⟨⟨by decide +kernel, by decide +kernel⟩, List.mem_of_getElem? (i := 1647) (by decide +kernel), List.mem_of_getElem? (i := 1862) (by decide +kernel), List.mem_of_getElem? (i := 1863) (by decide +kernel)⟩
theorem lw_p57 : lw_okq (⟨"TreequeryModel", "isNode", "(I)Z"⟩, 61) := ⟨⟨by decide +kernel, by decide +kernel⟩, List.mem_of_getElem? (i := 1647) (by decide +kernel), List.mem_of_getElem? (i := 1866) (by decide +kernel), List.mem_of_getElem? (i := 1867) (by decide +kernel)⟩
theorem lw_p58 : lw_okq (⟨"TreequeryModel", "takes", "(I)Z"⟩, 61) := ⟨⟨by decide +kernel, by decide +kernel⟩, List.mem_of_getElem? (i := 1647) (by decide +kernel), List.mem_of_getElem? (i := 1873) (by decide +kernel), List.mem_of_getElem? (i := 1874) (by decide +kernel)⟩
theorem lw_p59 : lw_okq (⟨"TreequeryModel", "refused", "(I)Z"⟩, 61) := ⟨⟨by decide +kernel, by decide +kernel⟩, List.mem_of_getElem? (i := 1647) (by decide +kernel), List.mem_of_getElem? (i := 1877) (by decide +kernel), List.mem_of_getElem? (i := 1878) (by decide +kernel)⟩
theorem lw_p60 : lw_okq (⟨"TreequeryModel", "collect", "(IIIIIII)I"⟩, 61) := ⟨⟨by decide +kernel, by decide +kernel⟩, List.mem_of_getElem? (i := 1647) (by decide +kernel), List.mem_of_getElem? (i := 1881) (by decide +kernel), List.mem_of_getElem? (i := 1882) (by decide +kernel)⟩
theorem lw_p61 : lw_okq (⟨"TreequeryModel", "isAtOdds", "()Z"⟩, 61) := ⟨⟨by decide +kernel, by decide +kernel⟩, List.mem_of_getElem? (i := 1647) (by decide +kernel), List.mem_of_getElem? (i := 1917) (by decide +kernel), List.mem_of_getElem? (i := 1918) (by decide +kernel)⟩
theorem lw_p62 : lw_okq (⟨"TreequeryModel", "madeBehind", "()I"⟩, 61) := ⟨⟨by decide +kernel, by decide +kernel⟩, List.mem_of_getElem? (i := 1647) (by decide +kernel), List.mem_of_getElem? (i := 1921) (by decide +kernel), List.mem_of_getElem? (i := 1922) (by decide +kernel)⟩
theorem lw_p63 : lw_okq (⟨"TreequeryModel", "remember", "()V"⟩, 61) := ⟨⟨by decide +kernel, by decide +kernel⟩, List.mem_of_getElem? (i := 1647) (by decide +kernel), List.mem_of_getElem? (i := 1925) (by decide +kernel), List.mem_of_getElem? (i := 1926) (by decide +kernel)⟩
def lw_privs_4 : List (MethodName × Nat) := [(⟨"Treequery$Tree", "lead", "(JII)I"⟩, 11), (⟨"Treequery", "neededVersion", "(I)LTreequery$Tree;"⟩, 19), (⟨"Treequery$Edits", "compare", "(LTreequery$Tree;LTreequery$Tree;II)V"⟩, 7), (⟨"Treequery$Edits", "compareForests", "(IIIII)V"⟩, 7), (⟨"TreequeryModel", "arrange", "()V"⟩, 61), (⟨"TreequeryModel", "attributeOf", "(II)I"⟩, 61), (⟨"TreequeryModel", "childCount", "(I)I"⟩, 61), (⟨"TreequeryModel", "childAt", "(II)I"⟩, 61), (⟨"TreequeryModel", "isSpot", "(II)Z"⟩, 61), (⟨"TreequeryModel", "isNode", "(I)Z"⟩, 61), (⟨"TreequeryModel", "takes", "(I)Z"⟩, 61), (⟨"TreequeryModel", "refused", "(I)Z"⟩, 61), (⟨"TreequeryModel", "collect", "(IIIIIII)I"⟩, 61), (⟨"TreequeryModel", "isAtOdds", "()Z"⟩, 61), (⟨"TreequeryModel", "madeBehind", "()I"⟩, 61), (⟨"TreequeryModel", "remember", "()V"⟩, 61)]
theorem lw_r4 : ∀ q ∈ lw_privs_4, lw_okq q := List.forall_mem_cons.mpr ⟨lw_p48, List.forall_mem_cons.mpr ⟨lw_p49, List.forall_mem_cons.mpr ⟨lw_p50, List.forall_mem_cons.mpr ⟨lw_p51, List.forall_mem_cons.mpr ⟨lw_p52, List.forall_mem_cons.mpr ⟨lw_p53, List.forall_mem_cons.mpr ⟨lw_p54, List.forall_mem_cons.mpr ⟨lw_p55, List.forall_mem_cons.mpr ⟨lw_p56, List.forall_mem_cons.mpr ⟨lw_p57, List.forall_mem_cons.mpr ⟨lw_p58, List.forall_mem_cons.mpr ⟨lw_p59, List.forall_mem_cons.mpr ⟨lw_p60, List.forall_mem_cons.mpr ⟨lw_p61, List.forall_mem_cons.mpr ⟨lw_p62, List.forall_mem_cons.mpr ⟨lw_p63, fun _ h => absurd h List.not_mem_nil⟩⟩⟩⟩⟩⟩⟩⟩⟩⟩⟩⟩⟩⟩⟩⟩
theorem lw_p64 : lw_okq (⟨"TreequeryModel", "all", "()J"⟩, 61) := ⟨⟨by decide +kernel, by decide +kernel⟩, List.mem_of_getElem? (i := 1647) (by decide +kernel), List.mem_of_getElem? (i := 1929) (by decide +kernel), List.mem_of_getElem? (i := 1930) (by decide +kernel)⟩
theorem lw_p65 : lw_okq (⟨"TreequeryModel", "perform", "()V"⟩, 61) := ⟨⟨by decide +kernel, by decide +kernel⟩, List.mem_of_getElem? (i := 1647) (by decide +kernel), List.mem_of_getElem? (i := 1933) (by decide +kernel), List.mem_of_getElem? (i := 1934) (by decide +kernel)⟩
theorem lw_p66 : lw_okq (⟨"TreequeryModel", "countBack", "(I)I"⟩, 61) := ⟨⟨by decide +kernel, by decide +kernel⟩, List.mem_of_getElem? (i := 1647) (by decide +kernel), List.mem_of_getElem? (i := 1937) (by decide +kernel), List.mem_of_getElem? (i := 1938) (by decide +kernel)⟩
theorem lw_p67 : lw_okq (⟨"TreequeryModel", "layChildren", "(II)V"⟩, 61) := ⟨⟨by decide +kernel, by decide +kernel⟩, List.mem_of_getElem? (i := 1647) (by decide +kernel), List.mem_of_getElem? (i := 1941) (by decide +kernel), List.mem_of_getElem? (i := 1942) (by decide +kernel)⟩
theorem lw_p68 : lw_okq (⟨"TreequeryModel", "nodeOf", "(I)I"⟩, 61) := ⟨⟨by decide +kernel, by decide +kernel⟩, List.mem_of_getElem? (i := 1647) (by decide +kernel), List.mem_of_getElem? (i := 1945) (by decide +kernel), List.mem_of_getElem? (i := 1946) (by decide +kernel)⟩
theorem lw_p69 : lw_okq (⟨"TreequeryModel", "isListed", "(II)Z"⟩, 61) := ⟨⟨by decide +kernel, by decide +kernel⟩, List.mem_of_getElem? (i := 1647) (by decide +kernel), List.mem_of_getElem? (i := 1949) (by decide +kernel), List.mem_of_getElem? (i := 1950) (by decide +kernel)⟩
theorem lw_p70 : lw_okq (⟨"TreequeryModel", "isSound", "(I)Z"⟩, 61) := ⟨⟨by decide +kernel, by decide +kernel⟩, List.mem_of_getElem? (i := 1647) (by decide +kernel), List.mem_of_getElem? (i := 1953) (by decide +kernel), List.mem_of_getElem? (i := 1954) (by decide +kernel)⟩
theorem lw_p71 : lw_okq (⟨"TreequeryModel", "goesRound", "(I)Z"⟩, 61) := ⟨⟨by decide +kernel, by decide +kernel⟩, List.mem_of_getElem? (i := 1647) (by decide +kernel), List.mem_of_getElem? (i := 1957) (by decide +kernel), List.mem_of_getElem? (i := 1958) (by decide +kernel)⟩
theorem lw_p72 : lw_okq (⟨"TreequeryModel", "hangs", "(I)Z"⟩, 61) := ⟨⟨by decide +kernel, by decide +kernel⟩, List.mem_of_getElem? (i := 1647) (by decide +kernel), List.mem_of_getElem? (i := 1961) (by decide +kernel), List.mem_of_getElem? (i := 1962) (by decide +kernel)⟩
theorem lw_p73 : lw_okq (⟨"TreequeryModel", "hasTwice", "()Z"⟩, 61) := ⟨⟨by decide +kernel, by decide +kernel⟩, List.mem_of_getElem? (i := 1647) (by decide +kernel), List.mem_of_getElem? (i := 1965) (by decide +kernel), List.mem_of_getElem? (i := 1966) (by decide +kernel)⟩
theorem lw_p74 : lw_okq (⟨"TreequeryModel", "isRight", "()Z"⟩, 61) := ⟨⟨by decide +kernel, by decide +kernel⟩, List.mem_of_getElem? (i := 1647) (by decide +kernel), List.mem_of_getElem? (i := 1969) (by decide +kernel), List.mem_of_getElem? (i := 1970) (by decide +kernel)⟩
theorem lw_p75 : lw_okq (⟨"TreequeryModel", "findTypes", "()V"⟩, 61) := ⟨⟨by decide +kernel, by decide +kernel⟩, List.mem_of_getElem? (i := 1647) (by decide +kernel), List.mem_of_getElem? (i := 1973) (by decide +kernel), List.mem_of_getElem? (i := 1974) (by decide +kernel)⟩
theorem lw_p76 : lw_okq (⟨"TreequeryModel", "isOf", "(II)Z"⟩, 61) := ⟨⟨by decide +kernel, by decide +kernel⟩, List.mem_of_getElem? (i := 1647) (by decide +kernel), List.mem_of_getElem? (i := 1977) (by decide +kernel), List.mem_of_getElem? (i := 1978) (by decide +kernel)⟩
theorem lw_p77 : lw_okq (⟨"TreequeryModel", "comeBack", "()V"⟩, 61) := ⟨⟨by decide +kernel, by decide +kernel⟩, List.mem_of_getElem? (i := 1647) (by decide +kernel), List.mem_of_getElem? (i := 1981) (by decide +kernel), List.mem_of_getElem? (i := 1982) (by decide +kernel)⟩
theorem lw_p78 : lw_okq (⟨"TreequeryModel", "markNew", "(IJ)V"⟩, 61) := ⟨⟨by decide +kernel, by decide +kernel⟩, List.mem_of_getElem? (i := 1647) (by decide +kernel), List.mem_of_getElem? (i := 1985) (by decide +kernel), List.mem_of_getElem? (i := 1986) (by decide +kernel)⟩
theorem lw_p79 : lw_okq (⟨"TreequeryModel", "number", "()V"⟩, 61) := ⟨⟨by decide +kernel, by decide +kernel⟩, List.mem_of_getElem? (i := 1647) (by decide +kernel), List.mem_of_getElem? (i := 1989) (by decide +kernel), List.mem_of_getElem? (i := 1990) (by decide +kernel)⟩
def lw_privs_5 : List (MethodName × Nat) := [(⟨"TreequeryModel", "all", "()J"⟩, 61), (⟨"TreequeryModel", "perform", "()V"⟩, 61), (⟨"TreequeryModel", "countBack", "(I)I"⟩, 61), (⟨"TreequeryModel", "layChildren", "(II)V"⟩, 61), (⟨"TreequeryModel", "nodeOf", "(I)I"⟩, 61), (⟨"TreequeryModel", "isListed", "(II)Z"⟩, 61), (⟨"TreequeryModel", "isSound", "(I)Z"⟩, 61), (⟨"TreequeryModel", "goesRound", "(I)Z"⟩, 61), (⟨"TreequeryModel", "hangs", "(I)Z"⟩, 61), (⟨"TreequeryModel", "hasTwice", "()Z"⟩, 61), (⟨"TreequeryModel", "isRight", "()Z"⟩, 61), (⟨"TreequeryModel", "findTypes", "()V"⟩, 61), (⟨"TreequeryModel", "isOf", "(II)Z"⟩, 61), (⟨"TreequeryModel", "comeBack", "()V"⟩, 61), (⟨"TreequeryModel", "markNew", "(IJ)V"⟩, 61), (⟨"TreequeryModel", "number", "()V"⟩, 61)]
theorem lw_r5 : ∀ q ∈ lw_privs_5, lw_okq q := List.forall_mem_cons.mpr ⟨lw_p64, List.forall_mem_cons.mpr ⟨lw_p65, List.forall_mem_cons.mpr ⟨lw_p66, List.forall_mem_cons.mpr ⟨lw_p67, List.forall_mem_cons.mpr ⟨lw_p68, List.forall_mem_cons.mpr ⟨lw_p69, List.forall_mem_cons.mpr ⟨lw_p70, List.forall_mem_cons.mpr ⟨lw_p71, List.forall_mem_cons.mpr ⟨lw_p72, List.forall_mem_cons.mpr ⟨lw_p73, List.forall_mem_cons.mpr ⟨lw_p74, List.forall_mem_cons.mpr ⟨lw_p75, List.forall_mem_cons.mpr ⟨lw_p76, List.forall_mem_cons.mpr ⟨lw_p77, List.forall_mem_cons.mpr ⟨lw_p78, List.forall_mem_cons.mpr ⟨lw_p79, fun _ h => absurd h List.not_mem_nil⟩⟩⟩⟩⟩⟩⟩⟩⟩⟩⟩⟩⟩⟩⟩⟩
theorem lw_p80 : lw_okq (⟨"TreequeryModel", "numberRow", "(I)I"⟩, 61) := ⟨⟨by decide +kernel, by decide +kernel⟩, List.mem_of_getElem? (i := 1647) (by decide +kernel), List.mem_of_getElem? (i := 1993) (by decide +kernel), List.mem_of_getElem? (i := 1994) (by decide +kernel)⟩
theorem lw_p81 : lw_okq (⟨"TreequeryModel", "numberAll", "()V"⟩, 61) := ⟨⟨by decide +kernel, by decide +kernel⟩, List.mem_of_getElem? (i := 1647) (by decide +kernel), List.mem_of_getElem? (i := 1997) (by decide +kernel), List.mem_of_getElem? (i := 1998) (by decide +kernel)⟩
theorem lw_p82 : lw_okq (⟨"TreequeryModel", "lookAtViews", "()V"⟩, 61) := ⟨⟨by decide +kernel, by decide +kernel⟩, List.mem_of_getElem? (i := 1647) (by decide +kernel), List.mem_of_getElem? (i := 2001) (by decide +kernel), List.mem_of_getElem? (i := 2002) (by decide +kernel)⟩
theorem lw_p83 : lw_okq (⟨"TreequeryModel", "findAll", "(J)V"⟩, 61) := ⟨⟨by decide +kernel, by decide +kernel⟩, List.mem_of_getElem? (i := 1647) (by decide +kernel), List.mem_of_getElem? (i := 2005) (by decide +kernel), List.mem_of_getElem? (i := 2006) (by decide +kernel)⟩
theorem lw_p84 : lw_okq (⟨"TreequeryModel", "stepped", "(II)J"⟩, 61) := ⟨⟨by decide +kernel, by decide +kernel⟩, List.mem_of_getElem? (i := 1647) (by decide +kernel), List.mem_of_getElem? (i := 2009) (by decide +kernel), List.mem_of_getElem? (i := 2010) (by decide +kernel)⟩
theorem lw_p85 : lw_okq (⟨"TreequeryModel", "axis", "(III)J"⟩, 61) := ⟨⟨by decide +kernel, by decide +kernel⟩, List.mem_of_getElem? (i := 1647) (by decide +kernel), List.mem_of_getElem? (i := 2013) (by decide +kernel), List.mem_of_getElem? (i := 2014) (by decide +kernel)⟩
theorem lw_p86 : lw_okq (⟨"TreequeryModel", "isBelow", "(II)Z"⟩, 61) := ⟨⟨by decide +kernel, by decide +kernel⟩, List.mem_of_getElem? (i := 1647) (by decide +kernel), List.mem_of_getElem? (i := 2017) (by decide +kernel), List.mem_of_getElem? (i := 2018) (by decide +kernel)⟩
theorem lw_p87 : lw_okq (⟨"TreequeryModel", "repeated", "(II)J"⟩, 61) := ⟨⟨by decide +kernel, by decide +kernel⟩, List.mem_of_getElem? (i := 1647) (by decide +kernel), List.mem_of_getElem? (i := 2021) (by decide +kernel), List.mem_of_getElem? (i := 2022) (by decide +kernel)⟩
theorem lw_p88 : lw_okq (⟨"TreequeryModel", "passes", "(II)Z"⟩, 61) := ⟨⟨by decide +kernel, by decide +kernel⟩, List.mem_of_getElem? (i := 1647) (by decide +kernel), List.mem_of_getElem? (i := 2025) (by decide +kernel), List.mem_of_getElem? (i := 2026) (by decide +kernel)⟩
theorem lw_p89 : lw_okq (⟨"TreequeryModel", "spaceOf", "(I)I"⟩, 61) := ⟨⟨by decide +kernel, by decide +kernel⟩, List.mem_of_getElem? (i := 1647) (by decide +kernel), List.mem_of_getElem? (i := 2029) (by decide +kernel), List.mem_of_getElem? (i := 2030) (by decide +kernel)⟩
theorem lw_p90 : lw_okq (⟨"TreequeryModel", "holds", "(IIII)Z"⟩, 61) := ⟨⟨by decide +kernel, by decide +kernel⟩, List.mem_of_getElem? (i := 1647) (by decide +kernel), List.mem_of_getElem? (i := 2034) (by decide +kernel), List.mem_of_getElem? (i := 2035) (by decide +kernel)⟩
theorem lw_p91 : lw_okq (⟨"TreequeryModel", "valueOf", "(IJ)I"⟩, 61) := ⟨⟨by decide +kernel, by decide +kernel⟩, List.mem_of_getElem? (i := 1647) (by decide +kernel), List.mem_of_getElem? (i := 2041) (by decide +kernel), List.mem_of_getElem? (i := 2042) (by decide +kernel)⟩
theorem lw_p92 : lw_okq (⟨"TreequeryModel", "fine", "(I)I"⟩, 61) := ⟨⟨by decide +kernel, by decide +kernel⟩, List.mem_of_getElem? (i := 1647) (by decide +kernel), List.mem_of_getElem? (i := 2052) (by decide +kernel), List.mem_of_getElem? (i := 2053) (by decide +kernel)⟩
theorem lw_p93 : lw_okq (⟨"TreequeryModel", "noNode", "(I)Z"⟩, 61) := ⟨⟨by decide +kernel, by decide +kernel⟩, List.mem_of_getElem? (i := 1647) (by decide +kernel), List.mem_of_getElem? (i := 2072) (by decide +kernel), List.mem_of_getElem? (i := 2073) (by decide +kernel)⟩
theorem lw_p94 : lw_okq (⟨"TreequeryModel", "isPath", "(I)Z"⟩, 61) := ⟨⟨by decide +kernel, by decide +kernel⟩, List.mem_of_getElem? (i := 1647) (by decide +kernel), List.mem_of_getElem? (i := 2112) (by decide +kernel), List.mem_of_getElem? (i := 2113) (by decide +kernel)⟩
theorem lw_p95 : lw_okq (⟨"TreequeryModel", "isOpen", "(I)Z"⟩, 61) := ⟨⟨by decide +kernel, by decide +kernel⟩, List.mem_of_getElem? (i := 1647) (by decide +kernel), List.mem_of_getElem? (i := 2116) (by decide +kernel), List.mem_of_getElem? (i := 2117) (by decide +kernel)⟩
def lw_privs_6 : List (MethodName × Nat) := [(⟨"TreequeryModel", "numberRow", "(I)I"⟩, 61), (⟨"TreequeryModel", "numberAll", "()V"⟩, 61), (⟨"TreequeryModel", "lookAtViews", "()V"⟩, 61), (⟨"TreequeryModel", "findAll", "(J)V"⟩, 61), (⟨"TreequeryModel", "stepped", "(II)J"⟩, 61), (⟨"TreequeryModel", "axis", "(III)J"⟩, 61), (⟨"TreequeryModel", "isBelow", "(II)Z"⟩, 61), (⟨"TreequeryModel", "repeated", "(II)J"⟩, 61), (⟨"TreequeryModel", "passes", "(II)Z"⟩, 61), (⟨"TreequeryModel", "spaceOf", "(I)I"⟩, 61), (⟨"TreequeryModel", "holds", "(IIII)Z"⟩, 61), (⟨"TreequeryModel", "valueOf", "(IJ)I"⟩, 61), (⟨"TreequeryModel", "fine", "(I)I"⟩, 61), (⟨"TreequeryModel", "noNode", "(I)Z"⟩, 61), (⟨"TreequeryModel", "isPath", "(I)Z"⟩, 61), (⟨"TreequeryModel", "isOpen", "(I)Z"⟩, 61)]
theorem lw_r6 : ∀ q ∈ lw_privs_6, lw_okq q := List.forall_mem_cons.mpr ⟨lw_p80, List.forall_mem_cons.mpr ⟨lw_p81, List.forall_mem_cons.mpr ⟨lw_p82, List.forall_mem_cons.mpr ⟨lw_p83, List.forall_mem_cons.mpr ⟨lw_p84, List.forall_mem_cons.mpr ⟨lw_p85, List.forall_mem_cons.mpr ⟨lw_p86, List.forall_mem_cons.mpr ⟨lw_p87, List.forall_mem_cons.mpr ⟨lw_p88, List.forall_mem_cons.mpr ⟨lw_p89, List.forall_mem_cons.mpr ⟨lw_p90, List.forall_mem_cons.mpr ⟨lw_p91, List.forall_mem_cons.mpr ⟨lw_p92, List.forall_mem_cons.mpr ⟨lw_p93, List.forall_mem_cons.mpr ⟨lw_p94, List.forall_mem_cons.mpr ⟨lw_p95, fun _ h => absurd h List.not_mem_nil⟩⟩⟩⟩⟩⟩⟩⟩⟩⟩⟩⟩⟩⟩⟩⟩
theorem lw_p96 : lw_okq (⟨"TreequeryModel", "hasView", "(I)Z"⟩, 61) := ⟨⟨by decide +kernel, by decide +kernel⟩, List.mem_of_getElem? (i := 1647) (by decide +kernel), List.mem_of_getElem? (i := 2120) (by decide +kernel), List.mem_of_getElem? (i := 2121) (by decide +kernel)⟩
theorem lw_p97 : lw_okq (⟨"TreequeryModel", "takesCondition", "(I)Z"⟩, 61) := ⟨⟨by decide +kernel, by decide +kernel⟩, List.mem_of_getElem? (i := 1647) (by decide +kernel), List.mem_of_getElem? (i := 2128) (by decide +kernel), List.mem_of_getElem? (i := 2129) (by decide +kernel)⟩
theorem lw_p98 : lw_okq (⟨"TreequeryModel", "condition", "(IIIII)I"⟩, 61) := ⟨⟨by decide +kernel, by decide +kernel⟩, List.mem_of_getElem? (i := 1647) (by decide +kernel), List.mem_of_getElem? (i := 2132) (by decide +kernel), List.mem_of_getElem? (i := 2133) (by decide +kernel)⟩
theorem lw_p99 : lw_okq (⟨"TreequeryModel", "read", "()V"⟩, 61) := ⟨⟨by decide +kernel, by decide +kernel⟩, List.mem_of_getElem? (i := 1647) (by decide +kernel), List.mem_of_getElem? (i := 2160) (by decide +kernel), List.mem_of_getElem? (i := 2161) (by decide +kernel)⟩
theorem lw_p100 : lw_okq (⟨"TreequeryModel", "seen", "()J"⟩, 61) := ⟨⟨by decide +kernel, by decide +kernel⟩, List.mem_of_getElem? (i := 1647) (by decide +kernel), List.mem_of_getElem? (i := 2164) (by decide +kernel), List.mem_of_getElem? (i := 2165) (by decide +kernel)⟩
theorem lw_p101 : lw_okq (⟨"TreequeryModel", "foundBy", "(I)J"⟩, 61) := ⟨⟨by decide +kernel, by decide +kernel⟩, List.mem_of_getElem? (i := 1647) (by decide +kernel), List.mem_of_getElem? (i := 2177) (by decide +kernel), List.mem_of_getElem? (i := 2178) (by decide +kernel)⟩
theorem lw_p102 : lw_okq (⟨"TreequeryModel", "pick", "(JI)I"⟩, 61) := ⟨⟨by decide +kernel, by decide +kernel⟩, List.mem_of_getElem? (i := 1647) (by decide +kernel), List.mem_of_getElem? (i := 2181) (by decide +kernel), List.mem_of_getElem? (i := 2182) (by decide +kernel)⟩
theorem lw_p103 : lw_okq (⟨"TreequeryModel", "allTypes", "()I"⟩, 61) := ⟨⟨by decide +kernel, by decide +kernel⟩, List.mem_of_getElem? (i := 1647) (by decide +kernel), List.mem_of_getElem? (i := 2235) (by decide +kernel), List.mem_of_getElem? (i := 2236) (by decide +kernel)⟩
theorem lw_p104 : lw_okq (⟨"TreequeryModel", "canHave", "(I)I"⟩, 61) := ⟨⟨by decide +kernel, by decide +kernel⟩, List.mem_of_getElem? (i := 1647) (by decide +kernel), List.mem_of_getElem? (i := 2239) (by decide +kernel), List.mem_of_getElem? (i := 2240) (by decide +kernel)⟩
theorem lw_p105 : lw_okq (⟨"TreequeryModel", "cameBy", "(IIII)I"⟩, 61) := ⟨⟨by decide +kernel, by decide +kernel⟩, List.mem_of_getElem? (i := 1647) (by decide +kernel), List.mem_of_getElem? (i := 2243) (by decide +kernel), List.mem_of_getElem? (i := 2244) (by decide +kernel)⟩
theorem lw_p106 : lw_okq (⟨"TreequeryModel", "childrenOf", "(I)I"⟩, 61) := ⟨⟨by decide +kernel, by decide +kernel⟩, List.mem_of_getElem? (i := 1647) (by decide +kernel), List.mem_of_getElem? (i := 2247) (by decide +kernel), List.mem_of_getElem? (i := 2248) (by decide +kernel)⟩
theorem lw_p107 : lw_okq (⟨"TreequeryModel", "parentsOf", "(II)I"⟩, 61) := ⟨⟨by decide +kernel, by decide +kernel⟩, List.mem_of_getElem? (i := 1647) (by decide +kernel), List.mem_of_getElem? (i := 2251) (by decide +kernel), List.mem_of_getElem? (i := 2252) (by decide +kernel)⟩
theorem lw_p108 : lw_okq (⟨"TreequeryModel", "left", "(II)I"⟩, 61) := ⟨⟨by decide +kernel, by decide +kernel⟩, List.mem_of_getElem? (i := 1647) (by decide +kernel), List.mem_of_getElem? (i := 2255) (by decide +kernel), List.mem_of_getElem? (i := 2256) (by decide +kernel)⟩
theorem lw_p109 : lw_okq (⟨"TreequeryModel", "isStreamed", "(I)Z"⟩, 61) := ⟨⟨by decide +kernel, by decide +kernel⟩, List.mem_of_getElem? (i := 1647) (by decide +kernel), List.mem_of_getElem? (i := 2267) (by decide +kernel), List.mem_of_getElem? (i := 2268) (by decide +kernel)⟩
theorem lw_p110 : lw_okq (⟨"TreequeryModel", "isNear", "(I)Z"⟩, 61) := ⟨⟨by decide +kernel, by decide +kernel⟩, List.mem_of_getElem? (i := 1647) (by decide +kernel), List.mem_of_getElem? (i := 2271) (by decide +kernel), List.mem_of_getElem? (i := 2272) (by decide +kernel)⟩
theorem lw_p111 : lw_okq (⟨"TreequeryModel", "textsBelow", "(II)I"⟩, 61) := ⟨⟨by decide +kernel, by decide +kernel⟩, List.mem_of_getElem? (i := 1647) (by decide +kernel), List.mem_of_getElem? (i := 2291) (by decide +kernel), List.mem_of_getElem? (i := 2292) (by decide +kernel)⟩
def lw_privs_7 : List (MethodName × Nat) := [(⟨"TreequeryModel", "hasView", "(I)Z"⟩, 61), (⟨"TreequeryModel", "takesCondition", "(I)Z"⟩, 61), (⟨"TreequeryModel", "condition", "(IIIII)I"⟩, 61), (⟨"TreequeryModel", "read", "()V"⟩, 61), (⟨"TreequeryModel", "seen", "()J"⟩, 61), (⟨"TreequeryModel", "foundBy", "(I)J"⟩, 61), (⟨"TreequeryModel", "pick", "(JI)I"⟩, 61), (⟨"TreequeryModel", "allTypes", "()I"⟩, 61), (⟨"TreequeryModel", "canHave", "(I)I"⟩, 61), (⟨"TreequeryModel", "cameBy", "(IIII)I"⟩, 61), (⟨"TreequeryModel", "childrenOf", "(I)I"⟩, 61), (⟨"TreequeryModel", "parentsOf", "(II)I"⟩, 61), (⟨"TreequeryModel", "left", "(II)I"⟩, 61), (⟨"TreequeryModel", "isStreamed", "(I)Z"⟩, 61), (⟨"TreequeryModel", "isNear", "(I)Z"⟩, 61), (⟨"TreequeryModel", "textsBelow", "(II)I"⟩, 61)]
theorem lw_r7 : ∀ q ∈ lw_privs_7, lw_okq q := List.forall_mem_cons.mpr ⟨lw_p96, List.forall_mem_cons.mpr ⟨lw_p97, List.forall_mem_cons.mpr ⟨lw_p98, List.forall_mem_cons.mpr ⟨lw_p99, List.forall_mem_cons.mpr ⟨lw_p100, List.forall_mem_cons.mpr ⟨lw_p101, List.forall_mem_cons.mpr ⟨lw_p102, List.forall_mem_cons.mpr ⟨lw_p103, List.forall_mem_cons.mpr ⟨lw_p104, List.forall_mem_cons.mpr ⟨lw_p105, List.forall_mem_cons.mpr ⟨lw_p106, List.forall_mem_cons.mpr ⟨lw_p107, List.forall_mem_cons.mpr ⟨lw_p108, List.forall_mem_cons.mpr ⟨lw_p109, List.forall_mem_cons.mpr ⟨lw_p110, List.forall_mem_cons.mpr ⟨lw_p111, fun _ h => absurd h List.not_mem_nil⟩⟩⟩⟩⟩⟩⟩⟩⟩⟩⟩⟩⟩⟩⟩⟩
theorem lw_p112 : lw_okq (⟨"TreequeryModel", "isVersion", "(I)Z"⟩, 61) := ⟨⟨by decide +kernel, by decide +kernel⟩, List.mem_of_getElem? (i := 1647) (by decide +kernel), List.mem_of_getElem? (i := 2303) (by decide +kernel), List.mem_of_getElem? (i := 2304) (by decide +kernel)⟩
theorem lw_p113 : lw_okq (⟨"TreequeryModel", "load", "(I)V"⟩, 61) := ⟨⟨by decide +kernel, by decide +kernel⟩, List.mem_of_getElem? (i := 1647) (by decide +kernel), List.mem_of_getElem? (i := 2307) (by decide +kernel), List.mem_of_getElem? (i := 2308) (by decide +kernel)⟩
theorem lw_p114 : lw_okq (⟨"TreequeryModel", "layOut", "(II)V"⟩, 61) := ⟨⟨by decide +kernel, by decide +kernel⟩, List.mem_of_getElem? (i := 1647) (by decide +kernel), List.mem_of_getElem? (i := 2315) (by decide +kernel), List.mem_of_getElem? (i := 2316) (by decide +kernel)⟩
theorem lw_p115 : lw_okq (⟨"TreequeryModel", "isKey", "(II)Z"⟩, 61) := ⟨⟨by decide +kernel, by decide +kernel⟩, List.mem_of_getElem? (i := 1647) (by decide +kernel), List.mem_of_getElem? (i := 2319) (by decide +kernel), List.mem_of_getElem? (i := 2320) (by decide +kernel)⟩
theorem lw_p116 : lw_okq (⟨"TreequeryModel", "compareAt", "(IIII)V"⟩, 61) := ⟨⟨by decide +kernel, by decide +kernel⟩, List.mem_of_getElem? (i := 1647) (by decide +kernel), List.mem_of_getElem? (i := 2323) (by decide +kernel), List.mem_of_getElem? (i := 2324) (by decide +kernel)⟩
theorem lw_p117 : lw_okq (⟨"TreequeryModel", "isAlike", "(IIII)Z"⟩, 61) := ⟨⟨by decide +kernel, by decide +kernel⟩, List.mem_of_getElem? (i := 1647) (by decide +kernel), List.mem_of_getElem? (i := 2327) (by decide +kernel), List.mem_of_getElem? (i := 2328) (by decide +kernel)⟩
theorem lw_p118 : lw_okq (⟨"TreequeryModel", "differ", "(II)Z"⟩, 61) := ⟨⟨by decide +kernel, by decide +kernel⟩, List.mem_of_getElem? (i := 1647) (by decide +kernel), List.mem_of_getElem? (i := 2338) (by decide +kernel), List.mem_of_getElem? (i := 2339) (by decide +kernel)⟩
def lw_privs_8 : List (MethodName × Nat) := [(⟨"TreequeryModel", "isVersion", "(I)Z"⟩, 61), (⟨"TreequeryModel", "load", "(I)V"⟩, 61), (⟨"TreequeryModel", "layOut", "(II)V"⟩, 61), (⟨"TreequeryModel", "isKey", "(II)Z"⟩, 61), (⟨"TreequeryModel", "compareAt", "(IIII)V"⟩, 61), (⟨"TreequeryModel", "isAlike", "(IIII)Z"⟩, 61), (⟨"TreequeryModel", "differ", "(II)Z"⟩, 61)]
theorem lw_r8 : ∀ q ∈ lw_privs_8, lw_okq q := List.forall_mem_cons.mpr ⟨lw_p112, List.forall_mem_cons.mpr ⟨lw_p113, List.forall_mem_cons.mpr ⟨lw_p114, List.forall_mem_cons.mpr ⟨lw_p115, List.forall_mem_cons.mpr ⟨lw_p116, List.forall_mem_cons.mpr ⟨lw_p117, List.forall_mem_cons.mpr ⟨lw_p118, fun _ h => absurd h List.not_mem_nil⟩⟩⟩⟩⟩⟩⟩
def lw_privs : List (MethodName × Nat) := lw_privs_1 ++ (lw_privs_2 ++ (lw_privs_3 ++ (lw_privs_4 ++ (lw_privs_5 ++ (lw_privs_6 ++ (lw_privs_7 ++ (lw_privs_8)))))))
def lw_tbl : List Cond := k2_sels lw_privs ++ tables_1
theorem lw_privs_ok : ∀ q ∈ lw_privs, lw_okq q := by
  show ∀ q ∈ lw_privs_1 ++ (lw_privs_2 ++ (lw_privs_3 ++ (lw_privs_4 ++ (lw_privs_5 ++ (lw_privs_6 ++ (lw_privs_7 ++ (lw_privs_8))))))), lw_okq q
  exact List.forall_mem_append.mpr ⟨lw_r1, List.forall_mem_append.mpr ⟨lw_r2, List.forall_mem_append.mpr ⟨lw_r3, List.forall_mem_append.mpr ⟨lw_r4, List.forall_mem_append.mpr ⟨lw_r5, List.forall_mem_append.mpr ⟨lw_r6, List.forall_mem_append.mpr ⟨lw_r7, lw_r8⟩⟩⟩⟩⟩⟩⟩
end
section
/-! ===== BEGIN words of one list among another's, by their places ===== -/
theorem goodIn_r {big : List Cond} (ws : List Cond) (ps : List Nat) (hp : ws = ps.filterMap (fun i => big[i]?)) (h : ws.all goodWord = true) : GoodIn big ws := by
  intro w hw
  have h1 := List.all_eq_true.mp h w hw
  rw [hp] at hw
  obtain ⟨i, -, hi⟩ := List.mem_filterMap.mp hw
  have hm : w ∈ big := by first | exact List.mem_of_getElem? hi | exact List.getElem?_mem hi
  exact ⟨hm, good_of_word h1⟩
theorem goodIn_app {big a b : List Cond} (ha : GoodIn big a) (hb : GoodIn big b) : GoodIn big (a ++ b) := fun w h => (List.mem_append.mp h).elim (ha w) (hb w)
theorem goodIn_ca {big a b : List Cond} {c : Cond} (ha : GoodIn big (c :: a)) (hb : GoodIn big b) : GoodIn big (c :: (a ++ b)) := fun w h => (List.mem_cons.mp h).elim (fun e => ha w (List.mem_cons.mpr (Or.inl e))) (fun h => (List.mem_append.mp h).elim (fun h => ha w (List.mem_cons.mpr (Or.inr h))) (hb w))
theorem goodIn_sub {big ws : List Cond} (hm : ∀ w ∈ ws, w ∈ big) (h : ws.all goodWord = true) : GoodIn big ws := fun w hw => ⟨hm w hw, good_of_word (List.all_eq_true.mp h w hw)⟩
/-! ===== END ===== -/

/-! ===== BEGIN exceptions that leave a method, and their catching by the caller (launches without stack traces) ===== -/
section VXA
/-! The laws vx_back, vx_callV, vx_callS, vx_callSW, vx_throw0, vx_throwS follow proofs of the library, with one case more: JvmDerived/Free/Laws.lean (Back.of_free), Shelf42/LK1.lean (callV, callS), Shelf/KitTraced.lean (throwNew0V, throwNewS). -/
/-- where a method has thrown q: the class by its name, the cell, what was written, the world -/
def vx_T (XC : String → State → State → Prop) (st : State) (q : Addr) (t : State) (mc ms : Nat) (free : Addr → Prop) : Prop :=
  ∃ (E : String) (ce : Cell) (L : List Loc), XC E st t ∧ t.heap[q]? = some ce ∧ ce.vm = .none ∧ st.vm.findClass E = some ce.cls ∧ st.WarmedH t.vm ∧ st.sameButNew ({ t with vm := st.vm } : State) L mc ms ∧ ∀ z ∈ L, free z.base
def vx_Q (Qc : Array Value → State → Outcome → State → Prop) (XC : String → State → State → Prop) (mc ms : Nat) (free : Addr → Prop) : Array Value → State → Outcome → State → Prop := fun a st o t =>
  (Qc a st o t ∧ ∃ L, FrameEnd st o t L mc ms ∧ ∀ q ∈ L, free q.base) ∨ ∃ q, o = .threw q ∧ vx_T XC st q t mc ms free
/-- a callee that returns or throws -/
def vx_Met (l : Launch) (y : MethodName) (ws : List Cond) (rm : Room) (Pc : Array Value → State → Prop) (Qc : Array Value → State → Outcome → State → Prop) (XC : String → State → State → Prop) (mc ms : Nat) (free : Addr → Prop) : Prop :=
  MetFree l y (headSpec ws rm) Pc (fun _ _ _ _ _ => True) (vx_Q Qc XC mc ms free)
def vx_Post (XC : String → State → State → Prop) (mc ms : Nat) (free : Addr → Prop) : Pt → Array Value → Addr → Pt → Prop := fun A a q B =>
  ∃ (g : JFrame) (mk : MethodId) (t : State) (L : List Loc) (E : String) (ce : Cell), B.U.heap = t.heap ∧ B.U.vm = t.vm ∧ XC E (A.U.calling g mk a) t ∧ t.heap[q]? = some ce ∧ ce.vm = .none ∧ A.U.vm.findClass E = some ce.cls ∧ B.locs = A.locs ++ L ∧ (∀ z ∈ L, free z.base) ∧ B.cells = A.cells + mc ∧ B.slots = A.slots + ms
def vx_Back (l : Launch) (R : Room) (p : Program) (e : Env) (below : List Frame) (s : State) (sargs : Array Value) (y : MethodName) (len W9 : Nat)
    (Pre : Pt → Array Value → Prop) (Post : Pt → Array Value → Option Value → Pt → Prop) (PostX : Pt → Array Value → Addr → Pt → Prop) : Prop :=
  ∀ (m : MethodId) (meth : Method) (c : Code) (A : Pt) (g : JFrame) (ig : Instr) (mk : MethodId) (a : Array Value),
    Stand p l e R s m sargs below meth c A.U A.locs A.cells A.slots → g.method = m → g.locals.size = c.maxLocals → decode c.code g.pc = .ok (ig, len) →
    2 * g.monitorRoom + (g.stack.map fun v => v.category).sum ≤ W9 → A.U.methodNamed? y = some mk → Pre A a →
    (∃ (v : Option Value) (B : Pt), Stand p l e R s m sargs below meth c B.U B.locs B.cells B.slots ∧ Post A a v B ∧
      Steps p.tables e below (doInvoke e (A.U.setTop g) [] mk a).1 (B.U.setTop { g with pc := g.pc + len, stack := v.toList ++ g.stack })) ∨
    (∃ (q : Addr) (B : Pt), Stand p l e R s m sargs below meth c B.U B.locs B.cells B.slots ∧ PostX A a q B ∧
      Steps p.tables e below (doInvoke e (A.U.setTop g) [] mk a).1 ((B.U.setTop g).pushFrame (.throwing q)))
section Payer
variable {l : Launch} {R : Room} {p : Program} {e : Env} {below : List Frame} {s : State} {sargs : Array Value} {y : MethodName} {len W9 : Nat}
theorem vx_back {ws : List Cond} {rm : Room} {Pc : Array Value → State → Prop} {Qc : Array Value → State → Outcome → State → Prop} {XC : String → State → State → Prop} {mc ms : Nat} {free : Addr → Prop} {bytes : ByteArray} {maxL : Nat} {ret : Option FieldType}
    (hM : vx_Met l y ws rm Pc Qc XC mc ms free) (hblind : FrameBlind Pc) (hrc : rm.cells = mc) (hrs : rm.slots = ms)
    (hframes : rm.frames + 1 ≤ R.frames) (hlocals : W9 + (maxL + 11) + rm.locals ≤ R.locals)
    (hws : ∀ w ∈ ws, ∀ a' U, s.WarmedH U.vm → w.before a' U = true) (hcode : Cond.code y bytes maxL ret ∈ ws) (hinit : ∀ a' U, s.WarmedH U.vm → (Cond.initialized y.cls).before a' U = true) :
    vx_Back l R p e below s sargs y len W9 (PreOf R mc ms Pc) (PostOf Qc mc ms free) (vx_Post XC mc ms free) := by
  intro m meth c A g ig mk a X hg hsize hdg hW hn hp
  have h1 : (headSpec ws rm).pre.before a A.U = true := atoms_intro fun w hw => hws w hw _ _ X.warmed
  have h2 : (Cond.code y bytes maxL ret).before a A.U = true := hws _ hcode _ _ X.warmed
  have h3 : (Cond.initialized y.cls).before a A.U = true := hinit _ _ X.warmed
  have h4 : A.cells + (headSpec ws rm).room.cells ≤ R.cells := by rw [show (headSpec ws rm).room.cells = mc from hrc]; exact hp.1
  have h5 : A.slots + (headSpec ws rm).room.slots ≤ R.slots := by rw [show (headSpec ws rm).room.slots = ms from hrs]; exact hp.2.1
  have hPc : Pc a (A.U.calling g mk a) := hblind _ _ _ _ hp.2.2
  obtain ⟨U, Ls, c0, s0⟩ := A
  dsimp only [Pt.U, Pt.locs, Pt.cells, Pt.slots] at h1 h2 h3 h4 h5 X hn hPc ⊢
  obtain ⟨methY, cY, hmY, hcY, -, hlY, -, -, -, -⟩ := Cond.code_spec hn h2
  obtain ⟨kY, hkY, -⟩ := className_of_methodNamed hn
  have hinitY : kY.init = .initialized := Cond.initialized_spec (findClass_of_methodNamed hn) hkY h3
  have h : At U g.method c below := by rw [hg]; exact X.here
  have hlocals9 : W9 + (maxL + 11) + (headSpec ws rm).room.locals ≤ R.locals := hlocals
  have happ : (headSpec ws rm).appliesLoose y e.platform (U.calling g mk a) = true :=
    Spec.appliesLoose_calling (g := g) h hdg hn hkY hinitY
      (X.room_calling (g := g) (R' := (headSpec ws rm).room) hsize hmY hcY hframes (by rw [hlY]; omega) h4 h5) h1
  obtain ⟨mid, hmid⟩ := h.above
  have hfr : (U.setTop g).frames = (.java g :: mid) ++ below := by rw [State.frames_setTop' g h.top, hmid]; rfl
  obtain ⟨o, s₂, hsteps, -, hend, hq⟩ := Steps.callFree hM p X.admits X.cas X.clock (acts := []) hfr happ hPc trivial
  have hq' : vx_Q Qc XC mc ms free a (U.calling g mk a) o s₂ := hq
  rw [State.frames_setTop' g h.top] at hend
  obtain ⟨g₀, hg0⟩ := Option.isSome_iff_exists.mp h.top
  obtain ⟨r, hr⟩ := State.topJava?_eq_some.mp hg0
  have hr' : (({ U with heap := s₂.heap, slotsUsed := s₂.slotsUsed } : State).setVm s₂.vm).frames = .java g₀ :: r := hr
  rcases hq' with ⟨hqc, L, hfe, hL⟩ | ⟨q, rfl, E, ce, L, hx, hce, hcv, hcl, hW₂, hsm, hL⟩
  · obtain ⟨⟨v, rfl⟩, hW₂, e2, q2, q3, q4, q5, q6⟩ := id hfe
    have e3 : s₂ = ({ (U.calling g mk a).setFrames s₂.frames with heap := s₂.heap, slotsUsed := s₂.slotsUsed } : State).setVm s₂.vm := by
      have : s₂ = ({ s₂ with vm := (U.calling g mk a).vm } : State).setVm s₂.vm := rfl
      rw [e2] at this
      exact this
    obtain ⟨c₂, i₂, len₂, hc₂, hd₂, hf₂⟩ := hend
    have hW' : U.WarmedH s₂.vm := hW₂
    have hcc : c₂ = c := by
      have h1 : s₂.code? g.method = U.code? g.method := by
        rw [State.code?_eq, State.code?_eq, hW'.alike.method?]
      exact Option.some.inj (hc₂.symm.trans (h1.trans h.code))
    subst hcc
    have hlen : len₂ = len := by rw [hdg] at hd₂; cases hd₂; rfl
    subst hlen
    have hs₂ : s₂ = (({ U with heap := s₂.heap, slotsUsed := s₂.slotsUsed } : State).setVm s₂.vm).setTop { g with pc := g.pc + len₂, stack := v.toList ++ g.stack } := by
      refine e3.trans ?_
      rw [hf₂, State.calling_eq h.top, State.setFrames_setFrames, State.setTop_of_frames _ hr', hr]
      rfl
    have hsame : U.sameButNew ({ U with heap := s₂.heap, slotsUsed := s₂.slotsUsed } : State) L mc ms := by
      refine ⟨?_, q2, q3, q4, q5, q6⟩
      obtain ⟨t, ht, -⟩ := State.frames_cons hr
      show ({ U with heap := s₂.heap, slotsUsed := s₂.slotsUsed } : State) = { U.setFrames U.frames with heap := s₂.heap, slotsUsed := s₂.slotsUsed }
      rw [State.setFrames_self ht]
    subst hg
    refine Or.inl ⟨v, ⟨(({ U with heap := s₂.heap, slotsUsed := s₂.slotsUsed } : State).setVm s₂.vm), Ls ++ L, c0 + mc, s0 + ms⟩,
      ⟨X.admits, X.cas, X.clock, X.frames, X.room, X.hears, X.method, X.code, (X.here.setHeapUsed s₂.heap s₂.slotsUsed).setVm hW'.alike, X.tail, State.WarmedH.trans X.warmed hW', X.limits, X.bytes, X.same.trans (hsame.setVm s.vm)⟩,
      ⟨g, mk, s₂, L, rfl, rfl, hqc, rfl, hL, rfl, rfl⟩, ?_⟩
    show Steps p.tables e below _ ((({ U with heap := s₂.heap, slotsUsed := s₂.slotsUsed } : State).setVm s₂.vm).setTop { g with pc := g.pc + len₂, stack := v.toList ++ g.stack })
    rw [← hs₂]
    exact hsteps
  · obtain ⟨e2, q2, q3, q4, q5, q6⟩ := id hsm
    have e3 : s₂ = ({ (U.calling g mk a).setFrames s₂.frames with heap := s₂.heap, slotsUsed := s₂.slotsUsed } : State).setVm s₂.vm := by
      have : s₂ = ({ s₂ with vm := (U.calling g mk a).vm } : State).setVm s₂.vm := rfl
      rw [e2] at this
      exact this
    have hf₂ : s₂.frames = .throwing q :: .java g :: U.frames.tail := hend
    have hW' : U.WarmedH s₂.vm := hW₂
    have hs₂ : s₂ = ((({ U with heap := s₂.heap, slotsUsed := s₂.slotsUsed } : State).setVm s₂.vm).setTop g).pushFrame (.throwing q) := by
      refine e3.trans ?_
      rw [hf₂, State.calling_eq h.top, State.setFrames_setFrames, State.pushFrame, State.frames_setTop _ hr', State.setTop_of_frames _ hr', State.setFrames_setFrames, hr]
      rfl
    have hsame : U.sameButNew ({ U with heap := s₂.heap, slotsUsed := s₂.slotsUsed } : State) L mc ms := by
      refine ⟨?_, q2, q3, q4, q5, q6⟩
      obtain ⟨t, ht, -⟩ := State.frames_cons hr
      show ({ U with heap := s₂.heap, slotsUsed := s₂.slotsUsed } : State) = { U.setFrames U.frames with heap := s₂.heap, slotsUsed := s₂.slotsUsed }
      rw [State.setFrames_self ht]
    subst hg
    refine Or.inr ⟨q, ⟨(({ U with heap := s₂.heap, slotsUsed := s₂.slotsUsed } : State).setVm s₂.vm), Ls ++ L, c0 + mc, s0 + ms⟩,
      ⟨X.admits, X.cas, X.clock, X.frames, X.room, X.hears, X.method, X.code, (X.here.setHeapUsed s₂.heap s₂.slotsUsed).setVm hW'.alike, X.tail, State.WarmedH.trans X.warmed hW', X.limits, X.bytes, X.same.trans (hsame.setVm s.vm)⟩,
      ⟨g, mk, s₂, L, E, ce, rfl, rfl, hx, hce, hcv, hcl, rfl, hL, rfl, rfl⟩, ?_⟩
    show Steps p.tables e below _ (((({ U with heap := s₂.heap, slotsUsed := s₂.slotsUsed } : State).setVm s₂.vm).setTop g).pushFrame (.throwing q))
    rw [← hs₂]
    exact hsteps
end Payer
section Calls
variable {p : Program} {l : Launch} {e : Env} {R : Room} {s : State} {m : MethodId} {args : Array Value} {below : List Frame} {meth : Method} {c : Code} {T : State} {locs : List Loc} {cells slots : Nat}
theorem vx_callV (X : Stand p l e R s m args below meth c T locs cells slots) (hexec : p.tables.exec = Jvm.exec) {own C : String} {index : Nat} {y : MethodName} {bytes : ByteArray} {maxL : Nat} {ret : Option FieldType}
    (hown : s.vm.findClass own = some m.cls) (hlink : (Cond.methodLink own index y).before args s = true) (hinst : (Cond.instanceMethod y).before args s = true) (hsel : (Cond.selects C y y).before args s = true)
    (hcode : (Cond.code y bytes maxL ret).before args s = true) (hy : y.cls ≠ "java/lang/invoke/MethodHandle" ∧ y.cls ≠ "java/lang/invoke/VarHandle")
    {W9 : Nat} {Pre : Pt → Array Value → Prop} {Post : Pt → Array Value → Option Value → Pt → Prop} {PostX : Pt → Array Value → Addr → Pt → Prop} (hK : vx_Back l R p e below s args y 3 W9 Pre Post PostX)
    {b : Addr} {cellB : Cell} (hcell : T.heap[b]? = some cellB) (hobj : cellB.vm.isStatics = false) (hcls : s.vm.findClass C = some cellB.cls)
    {g : JFrame} (hg : g.method = m) (hsize : g.locals.size = c.maxLocals) {argsL rest : List Value} (hlen : ∀ sig, parseMethodDescriptor y.desc = some sig → argsL.length = sig.parameters.length)
    (hstack : g.stack = argsL.reverse ++ .ref b :: rest) (hW : 2 * g.monitorRoom + (rest.map fun v => v.category).sum ≤ W9) (hdg : decode c.code g.pc = .ok (.invokevirtual index, 3))
    (hpre : ∀ vm₁, s.WarmedH vm₁ → Pre ⟨T.setVm vm₁, locs, cells, slots⟩ (Value.ref b :: argsL).toArray) :
    (∃ (v : Option Value) (vm₁ : Vm) (B : Pt), s.WarmedH vm₁ ∧ Stand p l e R s m args below meth c B.U B.locs B.cells B.slots ∧ Post ⟨T.setVm vm₁, locs, cells, slots⟩ (Value.ref b :: argsL).toArray v B ∧
      ∀ target, Steps p.tables e below (B.U.setTop { g with pc := g.pc + 3, stack := v.toList ++ rest }) target → Steps p.tables e below (T.setTop g) target) ∨
    (∃ (q : Addr) (vm₁ : Vm) (B : Pt), s.WarmedH vm₁ ∧ Stand p l e R s m args below meth c B.U B.locs B.cells B.slots ∧ PostX ⟨T.setVm vm₁, locs, cells, slots⟩ (Value.ref b :: argsL).toArray q B ∧
      Steps p.tables e below (T.setTop g) ((B.U.setTop { g with stack := rest }).pushFrame (.throwing q))) := by
  obtain ⟨mk, methM, hnamed, hmethM, hstM, habM⟩ := Cond.instanceMethod_spec hinst
  obtain ⟨methM', cM, hmethM', -, -, -, -, -, -, hsigM⟩ := Cond.code_spec hnamed hcode
  cases hmethM.symm.trans hmethM'
  obtain ⟨c2, r2, m2, q1, q2, q3, q4, kP, hkP, hkPi⟩ := Cond.selects_spec hsel
  cases hcls.symm.trans q1
  cases (State.methodFound?_of_named hnamed hy).symm.trans q2
  cases hnamed.symm.trans q3
  have hselP : selectMethod e.platform s.vm cellB.cls mk = .method mk := by rw [Launch.admits_selectMethod X.admits]; exact q4
  obtain ⟨vm₁, X₁, hstep₁⟩ := X.invokevirtual hexec hown hlink hnamed hmethM hstM hkP hkPi hy (a := b) (cell := cellB) hcell
    (fun z h => by rw [h] at hobj; cases hobj) hselP hmethM habM hkP hkPi (g := g) hg (argsL := argsL) (rest := rest) (hlen _ hsigM) hstack hdg
  rcases hK m meth c ⟨T.setVm vm₁, locs, cells, slots⟩ { g with stack := rest } (.invokevirtual index) mk (Value.ref b :: argsL).toArray X₁ hg hsize hdg hW (X₁.named hnamed) (hpre vm₁ X₁.warmed) with ⟨v, B, X', hpost, hsteps⟩ | ⟨q, B, X', hpost, hsteps⟩
  · exact Or.inl ⟨v, vm₁, B, X₁.warmed, X', hpost, fun target h => hstep₁ _ fun acts => by rw [doInvoke_state]; exact hsteps.trans h⟩
  · exact Or.inr ⟨q, vm₁, B, X₁.warmed, X', hpost, hstep₁ _ fun acts => by rw [doInvoke_state]; exact hsteps⟩
theorem vx_callS (X : Stand p l e R s m args below meth c T locs cells slots) (hexec : p.tables.exec = Jvm.exec) {own : String} {index : Nat} {y : MethodName} {bytes : ByteArray} {maxL : Nat} {ret : Option FieldType}
    (hown : s.vm.findClass own = some m.cls) (hlink : (Cond.methodLink own index y).before args s = true) (hstat : (Cond.static y).before args s = true) (hinit : (Cond.initialized y.cls).before args s = true)
    (hcode : (Cond.code y bytes maxL ret).before args s = true) (hy : y.cls ≠ "java/lang/invoke/MethodHandle" ∧ y.cls ≠ "java/lang/invoke/VarHandle")
    {W9 : Nat} {Pre : Pt → Array Value → Prop} {Post : Pt → Array Value → Option Value → Pt → Prop} {PostX : Pt → Array Value → Addr → Pt → Prop} (hK : vx_Back l R p e below s args y 3 W9 Pre Post PostX)
    {g : JFrame} (hg : g.method = m) (hsize : g.locals.size = c.maxLocals) {argsL rest : List Value} (hlen : ∀ sig, parseMethodDescriptor y.desc = some sig → argsL.length = sig.parameters.length)
    (hstack : g.stack = argsL.reverse ++ rest) (hW : 2 * g.monitorRoom + (rest.map fun v => v.category).sum ≤ W9) (hdg : decode c.code g.pc = .ok (.invokestatic index, 3))
    (hpre : ∀ vm₁, s.WarmedH vm₁ → Pre ⟨T.setVm vm₁, locs, cells, slots⟩ argsL.toArray) :
    (∃ (v : Option Value) (vm₁ : Vm) (B : Pt), s.WarmedH vm₁ ∧ Stand p l e R s m args below meth c B.U B.locs B.cells B.slots ∧ Post ⟨T.setVm vm₁, locs, cells, slots⟩ argsL.toArray v B ∧
      ∀ target, Steps p.tables e below (B.U.setTop { g with pc := g.pc + 3, stack := v.toList ++ rest }) target → Steps p.tables e below (T.setTop g) target) ∨
    (∃ (q : Addr) (vm₁ : Vm) (B : Pt), s.WarmedH vm₁ ∧ Stand p l e R s m args below meth c B.U B.locs B.cells B.slots ∧ PostX ⟨T.setVm vm₁, locs, cells, slots⟩ argsL.toArray q B ∧
      Steps p.tables e below (T.setTop g) ((B.U.setTop { g with stack := rest }).pushFrame (.throwing q))) := by
  obtain ⟨mk, hnamed⟩ := Cond.code_named hcode
  obtain ⟨methM, cM, hmethM, -, -, -, -, -, -, hsigM⟩ := Cond.code_spec hnamed hcode
  have hstatic : methM.isStatic = true := Cond.static_spec hnamed hmethM hstat
  obtain ⟨kP, hkP, -⟩ := className_of_methodNamed hnamed
  have hinitP : kP.init = .initialized := Cond.initialized_spec (findClass_of_methodNamed hnamed) hkP hinit
  obtain ⟨vm₁, X₁, hstep₁⟩ := X.invokestatic hexec hown hlink hnamed hmethM hstatic hkP hinitP hy (g := g) hg (argsL := argsL) (rest := rest) (hlen _ hsigM) hstack hdg
  rcases hK m meth c ⟨T.setVm vm₁, locs, cells, slots⟩ { g with stack := rest } (.invokestatic index) mk argsL.toArray X₁ hg hsize hdg hW (X₁.named hnamed) (hpre vm₁ X₁.warmed) with ⟨v, B, X', hpost, hsteps⟩ | ⟨q, B, X', hpost, hsteps⟩
  · exact Or.inl ⟨v, vm₁, B, X₁.warmed, X', hpost, fun target h => hstep₁ _ fun acts => by rw [doInvoke_state]; exact hsteps.trans h⟩
  · exact Or.inr ⟨q, vm₁, B, X₁.warmed, X', hpost, hstep₁ _ fun acts => by rw [doInvoke_state]; exact hsteps⟩
end Calls
theorem vx_cls {s : State} {T : State} {vm₁ : Vm} {E : String} {k : ClassId} (hW : s.WarmedH vm₁) (h : (T.setVm vm₁).vm.findClass E = some k) : s.vm.findClass E = some k := by
  have h1 : vm₁.findClass E = some k := h
  rw [hW.alike.findClass] at h1
  exact h1
/-- the method's frame g, with q thrown over it -/
def vx_W (p : Program) (l : Launch) (e : Env) (R : Room) (s : State) (m : MethodId) (args : Array Value) (below : List Frame) (meth : Method) (c : Code) (H : Heap) (locs : List Loc) (cells slots : Nat) (Q : State → Prop) (g : JFrame) (q : Addr) : Prop :=
  ∀ T : State, T.heap = H → Stand p l e R s m args below meth c T locs cells slots → ∃ t, Steps p.tables e below ((T.setTop g).pushFrame (.throwing q)) t ∧ Q t
def vx_Run (p : Program) (l : Launch) (e : Env) (R : Room) (s : State) (m : MethodId) (args : Array Value) (below : List Frame) (meth : Method) (c : Code) (H : Heap) (locs : List Loc) (cells slots mc ms : Nat) (g : JFrame) (rest : List Value) (Qa : State → Outcome → State → Prop) (XC : String → State → State → Prop) (free : Addr → Prop) : Prop :=
  ∀ T : State, T.heap = H → Stand p l e R s m args below meth c T locs cells slots →
    (∃ (v : Option Value) (st₀ t T' : State) (L : List Loc), st₀.heap = H ∧ Stand p l e R s m args below meth c T' (locs ++ L) (cells + mc) (slots + ms) ∧ (∀ q ∈ L, free q.base) ∧ T'.heap = t.heap ∧ T'.vm = t.vm ∧ Qa st₀ (.returned v) t ∧
      Goes p e below T g T' { g with pc := g.pc + 3, stack := v.toList ++ rest }) ∨
    (∃ (q : Addr) (st₀ t T' : State) (L : List Loc) (E : String) (ce : Cell), st₀.heap = H ∧ Stand p l e R s m args below meth c T' (locs ++ L) (cells + mc) (slots + ms) ∧ (∀ z ∈ L, free z.base) ∧ T'.heap = t.heap ∧ T'.vm = t.vm ∧ XC E st₀ t ∧ t.heap[q]? = some ce ∧ ce.vm = .none ∧ s.vm.findClass E = some ce.cls ∧
      Steps p.tables e below (T.setTop g) ((T'.setTop { g with stack := rest }).pushFrame (.throwing q)))
def vx_X {S : Type} (px : S → Prop) (B : String → S → State → Prop) (A : Nat → Prop) : String → State → State → Prop := fun E st t => ∃ u : S, px u ∧ B E u t ∧ va_F A st t
section Runs
variable {p : Program} {l : Launch} {e : Env} {R : Room} {s : State} {m : MethodId} {args : Array Value} {below : List Frame} {meth : Method} {c : Code} {H : Heap} {locs : List Loc} {cells slots : Nat}
variable {y : MethodName} {bytes cc : ByteArray} {maxL nL mc ms n index : Nat} {ret : Option FieldType} {ws : List Cond} {rm : Room} {Pc : Array Value → State → Prop} {Qc : Array Value → State → Outcome → State → Prop} {XC : String → State → State → Prop} {free : Addr → Prop} {Ts : List Cond} {own C : String} {b : Addr} {As rest : List Value} {g : JFrame}
theorem vx_callBack (cb : CallB R s args own index y bytes maxL ret ws rm mc ms n) (hM : vx_Met l y ws rm Pc Qc XC mc ms free) (hbl : FrameBlind Pc) : vx_Back l R p e below s args y 3 8 (PreOf R mc ms Pc) (PostOf Qc mc ms free) (vx_Post XC mc ms free) := by
  obtain ⟨hrc, hrs, hfr, hlo, hws, hcw, -, hini, -⟩ := cb
  exact vx_back (bytes := bytes) (maxL := maxL) (ret := ret) hM hbl hrc hrs hfr hlo hws hcw (fun a' U hW => word_at hW (Or.inl (by first | rfl | simp [Cond.onTables, Cond.keeps, Cond.steady])) hini)
theorem vx_runV (S : CallFix p m c cc nL s args Ts own) (hM : vx_Met l y ws rm Pc Qc XC mc ms free) (cw : CallW R s args own C index y bytes maxL ret ws rm mc ms n) (hp : PreV s H C b Pc As)
    (hg : g.method = m) (hn : As.length = n) (hsize : g.locals.size = nL) (hstack : g.stack = As.reverse ++ .ref b :: rest) (hW : 2 * g.monitorRoom + (rest.map fun v => v.category).sum ≤ 8) (hdg : decode cc g.pc = .ok (.invokevirtual index, 3)) (hf : cells + mc ≤ R.cells ∧ slots + ms ≤ R.slots) :
    vx_Run p l e R s m args below meth c H locs cells slots mc ms g rest (Qc (Value.ref b :: As).toArray) XC free := by
  have hK : vx_Back l R p e below s args y 3 8 (PreOf R mc ms Pc) (PostOf Qc mc ms free) (vx_Post XC mc ms free) := vx_callBack cw.1 hM hp.1
  obtain ⟨⟨-, -, -, -, -, -, hcode, -, hy, hlen, hl⟩, hin, hse⟩ := cw
  obtain ⟨hx, hb, hml, ho, -⟩ := S
  obtain ⟨-, ⟨cellB, hcB, hoB, hclB⟩, hPc⟩ := hp
  intro T hT X
  rcases vx_callV X hx (C := C) (bytes := bytes) (maxL := maxL) (ret := ret) ho hl hin hse hcode hy hK (by rw [hT]; exact hcB) hoB hclB hg (hsize.trans hml.symm) (argsL := As) (rest := rest) (fun sig h => hn.trans (hlen sig h)) hstack hW (by rw [hb]; exact hdg)
    (fun vm₁ hW₁ => ⟨hf.1, hf.2, hPc (T.setVm vm₁) hT hW₁⟩) with ⟨v, vm₁, ⟨U', l2, c2, s2⟩, hW₁, X', ⟨g', mk, t, L, e1, e2, hq, h1, hL, h2, h3⟩, st⟩ | ⟨q, vm₁, ⟨U', l2, c2, s2⟩, hW₁, X', ⟨g', mk, t, L, E, ce, e1, e2, hq, hce, hcv, hcl, h1, hL, h2, h3⟩, st⟩
  · dsimp only [Pt.U, Pt.locs, Pt.cells, Pt.slots] at X' e1 e2 h1 h2 h3 st
    subst h1; subst h2; subst h3
    exact Or.inl ⟨v, (T.setVm vm₁).calling g' mk (Value.ref b :: As).toArray, t, U', L, hT, X', hL, e1, e2, hq, st⟩
  · dsimp only [Pt.U, Pt.locs, Pt.cells, Pt.slots] at X' e1 e2 h1 h2 h3 st hcl
    subst h1; subst h2; subst h3
    exact Or.inr ⟨q, (T.setVm vm₁).calling g' mk (Value.ref b :: As).toArray, t, U', L, E, ce, hT, X', hL, e1, e2, hq, hce, hcv, vx_cls hW₁ hcl, st⟩
theorem vx_runS (S : CallFix p m c cc nL s args Ts own) (hM : vx_Met l y ws rm Pc Qc XC mc ms free) (cw : CallB R s args own index y bytes maxL ret ws rm mc ms n ∧ (Cond.static y).before args s = true) (hp : PreS s H Pc As)
    (hg : g.method = m) (hn : As.length = n) (hsize : g.locals.size = nL) (hstack : g.stack = As.reverse ++ rest) (hW : 2 * g.monitorRoom + (rest.map fun v => v.category).sum ≤ 8) (hdg : decode cc g.pc = .ok (.invokestatic index, 3)) (hf : cells + mc ≤ R.cells ∧ slots + ms ≤ R.slots) :
    vx_Run p l e R s m args below meth c H locs cells slots mc ms g rest (Qc As.toArray) XC free := by
  have hK : vx_Back l R p e below s args y 3 8 (PreOf R mc ms Pc) (PostOf Qc mc ms free) (vx_Post XC mc ms free) := vx_callBack cw.1 hM hp.1
  obtain ⟨⟨-, -, -, -, -, -, hcode, hini, hy, hlen, hl⟩, hstt⟩ := cw
  obtain ⟨hx, hb, hml, ho, -⟩ := S
  intro T hT X
  rcases vx_callS X hx (bytes := bytes) (maxL := maxL) (ret := ret) ho hl hstt hini hcode hy hK hg (hsize.trans hml.symm) (argsL := As) (rest := rest) (fun sig h => hn.trans (hlen sig h)) hstack hW (by rw [hb]; exact hdg)
    (fun vm₁ hW₁ => ⟨hf.1, hf.2, hp.2 (T.setVm vm₁) hT hW₁⟩) with ⟨v, vm₁, ⟨U', l2, c2, s2⟩, hW₁, X', ⟨g', mk, t, L, e1, e2, hq, h1, hL, h2, h3⟩, st⟩ | ⟨q, vm₁, ⟨U', l2, c2, s2⟩, hW₁, X', ⟨g', mk, t, L, E, ce, e1, e2, hq, hce, hcv, hcl, h1, hL, h2, h3⟩, st⟩
  · dsimp only [Pt.U, Pt.locs, Pt.cells, Pt.slots] at X' e1 e2 h1 h2 h3 st
    subst h1; subst h2; subst h3
    exact Or.inl ⟨v, (T.setVm vm₁).calling g' mk As.toArray, t, U', L, hT, X', hL, e1, e2, hq, st⟩
  · dsimp only [Pt.U, Pt.locs, Pt.cells, Pt.slots] at X' e1 e2 h1 h2 h3 st hcl
    subst h1; subst h2; subst h3
    exact Or.inr ⟨q, (T.setVm vm₁).calling g' mk As.toArray, t, U', L, E, ce, hT, X', hL, e1, e2, hq, hce, hcv, vx_cls hW₁ hcl, st⟩
end Runs
section Rows
variable {p : Program} {l : Launch} {e : Env} {R : Room} {s : State} {m : MethodId} {args : Array Value} {below : List Frame} {meth : Method} {c : Code} {H : Heap} {locs : List Loc} {cells slots : Nat} {Q : State → Prop}
variable {mc ms : Nat} {free : Addr → Prop} {A0 A1 : Nat → Prop} {H0 : Heap} {a : Array Value} {pc : Nat} {ls : Array Slot} {st0 rest : List Value}
theorem vx_keep {st₀ t T' : State} {L : List Loc} (h0 : st₀.heap = H) (e1 : T'.heap = t.heap) (hS : va_S A0 H0 H locs) (hA : ∀ q, q < H.size → A1 q → A0 q) (hf : ∀ q, free q → A0 q) (hL : ∀ q ∈ L, free q.base) (hF : va_F A1 st₀ t) :
    H.size ≤ T'.heap.size ∧ (∀ q : Nat, q < H.size → ¬ A1 q → T'.heap[q]? = H[q]?) ∧ va_S A0 H0 T'.heap (locs ++ L) := by
  obtain ⟨hz, hk⟩ := hF
  rw [h0] at hz hk
  exact ⟨by rw [e1]; exact hz, fun q h1 h2 => by rw [e1]; exact hk q h1 h2,
    ⟨Nat.le_trans hS.1 (by rw [e1]; exact hz), fun q h1 h2 => by rw [e1, hk q (Nat.lt_of_lt_of_le h1 hS.1) (fun z => h2 (hA q (Nat.lt_of_lt_of_le h1 hS.1) z))]; exact hS.2.1 q h1 h2, fun q hq => by
      rcases List.mem_append.mp hq with h | h
      · exact hS.2.2 q h
      · exact hf _ (hL q h)⟩⟩
theorem vx_calli {S SX : Type} {post : Int32 → S → Prop} {px : SX → Prop} {B : S → State → Prop} {BX : String → SX → State → Prop} {AX : Nat → Prop} (hr : vx_Run p l e R s m args below meth c H locs cells slots mc ms (F0 m pc ls st0) rest (va_Qi post B A1 a) (vx_X px BX AX) free) (hS : va_S A0 H0 H locs) (hA : ∀ q, q < H.size → A1 q → A0 q) (hf : ∀ q, free q → A0 q) (hAX : ∀ q, q < H.size → AX q → A0 q)
    (kx : ∀ (E : String) (ce : Cell) (q9 : Addr) (u : SX) (t : State) (H1 : Heap) (locs1 : List Loc), t.heap = H1 → s.vm.Alike t.vm → px u → BX E u t → H.size ≤ H1.size → (∀ q : Nat, q < H.size → ¬ AX q → H1[q]? = H[q]?) → va_S A0 H0 H1 locs1 → H1[q9]? = some ce → ce.vm = .none → s.vm.findClass E = some ce.cls → vx_W p l e R s m args below meth c H1 locs1 (cells + mc) (slots + ms) Q (F0 m pc ls rest) q9)
    (kk : ∀ (r : Int32) (u : S) (t : State) (H1 : Heap) (locs1 : List Loc), t.heap = H1 → s.vm.Alike t.vm → post r u → B u t → H.size ≤ H1.size → (∀ q : Nat, q < H.size → ¬ A1 q → H1[q]? = H[q]?) → va_S A0 H0 H1 locs1 → W p l e R s m args below meth c H1 locs1 (cells + mc) (slots + ms) Q (F0 m (pc + 3) ls (.int r :: rest))) : W p l e R s m args below meth c H locs cells slots Q (F0 m pc ls st0) := by
  intro T hT X
  rcases hr T hT X with ⟨v, st₀, t, T', L, h0, X', hL, e1, e2, ⟨⟨r, u, hv, hp, hb⟩, hF⟩, st⟩ | ⟨q, st₀, t, T', L, E, ce, h0, X', hL, e1, e2, ⟨u, hp, hb, hF⟩, hce, hcv, hcl, st⟩
  · cases hv
    obtain ⟨k1, k2, k3⟩ := vx_keep h0 e1 hS hA hf hL hF
    obtain ⟨t2, a1, b1⟩ := kk r u t T'.heap (locs ++ L) e1.symm (by rw [← e2]; exact X'.warmed.alike) hp hb k1 k2 k3 T' rfl X'
    exact ⟨t2, st t2 a1, b1⟩
  · obtain ⟨k1, k2, k3⟩ := vx_keep h0 e1 hS hAX hf hL hF
    obtain ⟨t2, a1, b1⟩ := kx E ce q u t T'.heap (locs ++ L) e1.symm (by rw [← e2]; exact X'.warmed.alike) hp hb k1 k2 k3 (by rw [e1]; exact hce) hcv hcl T' rfl X'
    exact ⟨t2, st.trans a1, b1⟩
theorem vx_calll {S SX : Type} {post : Int64 → S → Prop} {px : SX → Prop} {B : S → State → Prop} {BX : String → SX → State → Prop} {AX : Nat → Prop} (hr : vx_Run p l e R s m args below meth c H locs cells slots mc ms (F0 m pc ls st0) rest (va_Ql post B A1 a) (vx_X px BX AX) free) (hS : va_S A0 H0 H locs) (hA : ∀ q, q < H.size → A1 q → A0 q) (hf : ∀ q, free q → A0 q) (hAX : ∀ q, q < H.size → AX q → A0 q)
    (kx : ∀ (E : String) (ce : Cell) (q9 : Addr) (u : SX) (t : State) (H1 : Heap) (locs1 : List Loc), t.heap = H1 → s.vm.Alike t.vm → px u → BX E u t → H.size ≤ H1.size → (∀ q : Nat, q < H.size → ¬ AX q → H1[q]? = H[q]?) → va_S A0 H0 H1 locs1 → H1[q9]? = some ce → ce.vm = .none → s.vm.findClass E = some ce.cls → vx_W p l e R s m args below meth c H1 locs1 (cells + mc) (slots + ms) Q (F0 m pc ls rest) q9)
    (kk : ∀ (r : Int64) (u : S) (t : State) (H1 : Heap) (locs1 : List Loc), t.heap = H1 → s.vm.Alike t.vm → post r u → B u t → H.size ≤ H1.size → (∀ q : Nat, q < H.size → ¬ A1 q → H1[q]? = H[q]?) → va_S A0 H0 H1 locs1 → W p l e R s m args below meth c H1 locs1 (cells + mc) (slots + ms) Q (F0 m (pc + 3) ls (.long r :: rest))) : W p l e R s m args below meth c H locs cells slots Q (F0 m pc ls st0) := by
  intro T hT X
  rcases hr T hT X with ⟨v, st₀, t, T', L, h0, X', hL, e1, e2, ⟨⟨r, u, hv, hp, hb⟩, hF⟩, st⟩ | ⟨q, st₀, t, T', L, E, ce, h0, X', hL, e1, e2, ⟨u, hp, hb, hF⟩, hce, hcv, hcl, st⟩
  · cases hv
    obtain ⟨k1, k2, k3⟩ := vx_keep h0 e1 hS hA hf hL hF
    obtain ⟨t2, a1, b1⟩ := kk r u t T'.heap (locs ++ L) e1.symm (by rw [← e2]; exact X'.warmed.alike) hp hb k1 k2 k3 T' rfl X'
    exact ⟨t2, st t2 a1, b1⟩
  · obtain ⟨k1, k2, k3⟩ := vx_keep h0 e1 hS hAX hf hL hF
    obtain ⟨t2, a1, b1⟩ := kx E ce q u t T'.heap (locs ++ L) e1.symm (by rw [← e2]; exact X'.warmed.alike) hp hb k1 k2 k3 (by rw [e1]; exact hce) hcv hcl T' rfl X'
    exact ⟨t2, st.trans a1, b1⟩
theorem vx_callf {S SX : Type} {post : UInt32 → S → Prop} {px : SX → Prop} {B : S → State → Prop} {BX : String → SX → State → Prop} {AX : Nat → Prop} (hr : vx_Run p l e R s m args below meth c H locs cells slots mc ms (F0 m pc ls st0) rest (va_Qf post B A1 a) (vx_X px BX AX) free) (hS : va_S A0 H0 H locs) (hA : ∀ q, q < H.size → A1 q → A0 q) (hf : ∀ q, free q → A0 q) (hAX : ∀ q, q < H.size → AX q → A0 q)
    (kx : ∀ (E : String) (ce : Cell) (q9 : Addr) (u : SX) (t : State) (H1 : Heap) (locs1 : List Loc), t.heap = H1 → s.vm.Alike t.vm → px u → BX E u t → H.size ≤ H1.size → (∀ q : Nat, q < H.size → ¬ AX q → H1[q]? = H[q]?) → va_S A0 H0 H1 locs1 → H1[q9]? = some ce → ce.vm = .none → s.vm.findClass E = some ce.cls → vx_W p l e R s m args below meth c H1 locs1 (cells + mc) (slots + ms) Q (F0 m pc ls rest) q9)
    (kk : ∀ (r : UInt32) (u : S) (t : State) (H1 : Heap) (locs1 : List Loc), t.heap = H1 → s.vm.Alike t.vm → post r u → B u t → H.size ≤ H1.size → (∀ q : Nat, q < H.size → ¬ A1 q → H1[q]? = H[q]?) → va_S A0 H0 H1 locs1 → W p l e R s m args below meth c H1 locs1 (cells + mc) (slots + ms) Q (F0 m (pc + 3) ls (.float r :: rest))) : W p l e R s m args below meth c H locs cells slots Q (F0 m pc ls st0) := by
  intro T hT X
  rcases hr T hT X with ⟨v, st₀, t, T', L, h0, X', hL, e1, e2, ⟨⟨r, u, hv, hp, hb⟩, hF⟩, st⟩ | ⟨q, st₀, t, T', L, E, ce, h0, X', hL, e1, e2, ⟨u, hp, hb, hF⟩, hce, hcv, hcl, st⟩
  · cases hv
    obtain ⟨k1, k2, k3⟩ := vx_keep h0 e1 hS hA hf hL hF
    obtain ⟨t2, a1, b1⟩ := kk r u t T'.heap (locs ++ L) e1.symm (by rw [← e2]; exact X'.warmed.alike) hp hb k1 k2 k3 T' rfl X'
    exact ⟨t2, st t2 a1, b1⟩
  · obtain ⟨k1, k2, k3⟩ := vx_keep h0 e1 hS hAX hf hL hF
    obtain ⟨t2, a1, b1⟩ := kx E ce q u t T'.heap (locs ++ L) e1.symm (by rw [← e2]; exact X'.warmed.alike) hp hb k1 k2 k3 (by rw [e1]; exact hce) hcv hcl T' rfl X'
    exact ⟨t2, st.trans a1, b1⟩
theorem vx_calld {S SX : Type} {post : UInt64 → S → Prop} {px : SX → Prop} {B : S → State → Prop} {BX : String → SX → State → Prop} {AX : Nat → Prop} (hr : vx_Run p l e R s m args below meth c H locs cells slots mc ms (F0 m pc ls st0) rest (va_Qd post B A1 a) (vx_X px BX AX) free) (hS : va_S A0 H0 H locs) (hA : ∀ q, q < H.size → A1 q → A0 q) (hf : ∀ q, free q → A0 q) (hAX : ∀ q, q < H.size → AX q → A0 q)
    (kx : ∀ (E : String) (ce : Cell) (q9 : Addr) (u : SX) (t : State) (H1 : Heap) (locs1 : List Loc), t.heap = H1 → s.vm.Alike t.vm → px u → BX E u t → H.size ≤ H1.size → (∀ q : Nat, q < H.size → ¬ AX q → H1[q]? = H[q]?) → va_S A0 H0 H1 locs1 → H1[q9]? = some ce → ce.vm = .none → s.vm.findClass E = some ce.cls → vx_W p l e R s m args below meth c H1 locs1 (cells + mc) (slots + ms) Q (F0 m pc ls rest) q9)
    (kk : ∀ (r : UInt64) (u : S) (t : State) (H1 : Heap) (locs1 : List Loc), t.heap = H1 → s.vm.Alike t.vm → post r u → B u t → H.size ≤ H1.size → (∀ q : Nat, q < H.size → ¬ A1 q → H1[q]? = H[q]?) → va_S A0 H0 H1 locs1 → W p l e R s m args below meth c H1 locs1 (cells + mc) (slots + ms) Q (F0 m (pc + 3) ls (.double r :: rest))) : W p l e R s m args below meth c H locs cells slots Q (F0 m pc ls st0) := by
  intro T hT X
  rcases hr T hT X with ⟨v, st₀, t, T', L, h0, X', hL, e1, e2, ⟨⟨r, u, hv, hp, hb⟩, hF⟩, st⟩ | ⟨q, st₀, t, T', L, E, ce, h0, X', hL, e1, e2, ⟨u, hp, hb, hF⟩, hce, hcv, hcl, st⟩
  · cases hv
    obtain ⟨k1, k2, k3⟩ := vx_keep h0 e1 hS hA hf hL hF
    obtain ⟨t2, a1, b1⟩ := kk r u t T'.heap (locs ++ L) e1.symm (by rw [← e2]; exact X'.warmed.alike) hp hb k1 k2 k3 T' rfl X'
    exact ⟨t2, st t2 a1, b1⟩
  · obtain ⟨k1, k2, k3⟩ := vx_keep h0 e1 hS hAX hf hL hF
    obtain ⟨t2, a1, b1⟩ := kx E ce q u t T'.heap (locs ++ L) e1.symm (by rw [← e2]; exact X'.warmed.alike) hp hb k1 k2 k3 (by rw [e1]; exact hce) hcv hcl T' rfl X'
    exact ⟨t2, st.trans a1, b1⟩
theorem vx_callv {S SX : Type} {post : S → Prop} {px : SX → Prop} {B : S → State → Prop} {BX : String → SX → State → Prop} {AX : Nat → Prop} (hr : vx_Run p l e R s m args below meth c H locs cells slots mc ms (F0 m pc ls st0) rest (va_Qv post B A1 a) (vx_X px BX AX) free) (hS : va_S A0 H0 H locs) (hA : ∀ q, q < H.size → A1 q → A0 q) (hf : ∀ q, free q → A0 q) (hAX : ∀ q, q < H.size → AX q → A0 q)
    (kx : ∀ (E : String) (ce : Cell) (q9 : Addr) (u : SX) (t : State) (H1 : Heap) (locs1 : List Loc), t.heap = H1 → s.vm.Alike t.vm → px u → BX E u t → H.size ≤ H1.size → (∀ q : Nat, q < H.size → ¬ AX q → H1[q]? = H[q]?) → va_S A0 H0 H1 locs1 → H1[q9]? = some ce → ce.vm = .none → s.vm.findClass E = some ce.cls → vx_W p l e R s m args below meth c H1 locs1 (cells + mc) (slots + ms) Q (F0 m pc ls rest) q9)
    (kk : ∀ (u : S) (t : State) (H1 : Heap) (locs1 : List Loc), t.heap = H1 → s.vm.Alike t.vm → post u → B u t → H.size ≤ H1.size → (∀ q : Nat, q < H.size → ¬ A1 q → H1[q]? = H[q]?) → va_S A0 H0 H1 locs1 → W p l e R s m args below meth c H1 locs1 (cells + mc) (slots + ms) Q (F0 m (pc + 3) ls (rest))) : W p l e R s m args below meth c H locs cells slots Q (F0 m pc ls st0) := by
  intro T hT X
  rcases hr T hT X with ⟨v, st₀, t, T', L, h0, X', hL, e1, e2, ⟨⟨u, hv, hp, hb⟩, hF⟩, st⟩ | ⟨q, st₀, t, T', L, E, ce, h0, X', hL, e1, e2, ⟨u, hp, hb, hF⟩, hce, hcv, hcl, st⟩
  · cases hv
    obtain ⟨k1, k2, k3⟩ := vx_keep h0 e1 hS hA hf hL hF
    obtain ⟨t2, a1, b1⟩ := kk u t T'.heap (locs ++ L) e1.symm (by rw [← e2]; exact X'.warmed.alike) hp hb k1 k2 k3 T' rfl X'
    exact ⟨t2, st t2 a1, b1⟩
  · obtain ⟨k1, k2, k3⟩ := vx_keep h0 e1 hS hAX hf hL hF
    obtain ⟨t2, a1, b1⟩ := kx E ce q u t T'.heap (locs ++ L) e1.symm (by rw [← e2]; exact X'.warmed.alike) hp hb k1 k2 k3 (by rw [e1]; exact hce) hcv hcl T' rfl X'
    exact ⟨t2, st.trans a1, b1⟩
/-- caught by the row x of this method's table; the rows ahead don't take it -/
theorem vx_catch {own name : String} {E : String} {ce : Cell} {q : Addr} (hown : s.vm.findClass own = some m.cls) (pre : List ExceptionTableEntry) (x : ExceptionTableEntry) (suf : List ExceptionTableEntry) (hsplit : c.exceptionTable.toList = pre ++ x :: suf)
    (hpass : ∀ z ∈ pre, covers z pc = false ∨ (z.catchType ≠ 0 ∧ ∃ nm : String, (Cond.classLink own z.catchType nm).before args s = true ∧ va_Nc E nm s)) (hx : covers x pc = true) (h0 : x.catchType ≠ 0)
    (hlink : (Cond.classLink own x.catchType name).before args s = true) (hcast : (Cond.castable E name).before args s = true) (hcell : H[q]? = some ce) (hv : ce.vm = .none) (hcl : s.vm.findClass E = some ce.cls)
    (kk : W p l e R s m args below meth c H locs cells slots Q (F0 m x.handlerPc ls [.ref q])) : vx_W p l e R s m args below meth c H locs cells slots Q (F0 m pc ls rest) q := by
  intro T hT X
  have hpl : e.platform.magicAccessors = ({} : Platform).magicAccessors := by rw [X.admits.platform]
  obtain ⟨c3, c4, hc3, hc4, hasg⟩ := Cond.castable_spec hcast
  cases Option.some.inj (hc3.symm.trans hcl)
  obtain ⟨c5, hc5, hcl5⟩ := Cond.classLink_spec hown hlink e.platform hpl
  cases Option.some.inj (hc4.symm.trans hc5)
  obtain ⟨vm', X', st⟩ := X.thenCaughtThrough q (g := F0 m pc ls rest) rfl (Steps.refl _) (by rw [hT]; exact hcell) (by rw [hv]; rfl) (by obtain ⟨k9, h9, -⟩ := Vm.findClass_spec hcl; exact ⟨k9, h9⟩) pre x suf hsplit
    (fun z hz => by
      rcases hpass z hz with h | ⟨hz0, nm, hl1, hn1⟩
      · exact Or.inl h
      · obtain ⟨c6, hc6, hcl6⟩ := Cond.classLink_spec hown hl1 e.platform hpl
        obtain ⟨a8, b8, h1, h2, h3⟩ := hn1
        cases Option.some.inj (h1.symm.trans hcl)
        cases Option.some.inj (h2.symm.trans hc6)
        exact Or.inr ⟨hz0, _, hcl6, h3⟩) hx (Or.inr ⟨h0, c4, hcl5, hasg⟩)
  obtain ⟨t, a1, b1⟩ := kk (T.setVm vm') hT X'
  exact ⟨t, st.trans a1, b1⟩
end Rows
section Ends
variable {p : Program} {l : Launch} {e : Env} {R : Room} {s : State} {m : MethodId} {args : Array Value} {below : List Frame} {meth : Method} {c : Code} {H : Heap} {locs : List Loc} {cells slots : Nat} {Q : State → Prop}
variable {mc ms : Nat} {free : Addr → Prop} {A0 A1 : Nat → Prop} {H0 : Heap} {a : Array Value} {ls : Array Slot} {st0 rest : List Value}
variable {Qc : Array Value → State → Outcome → State → Prop} {XC : String → State → State → Prop}
/-- what a body that may throw owes at its end -/
def vx_MQ (below : List Frame) (Qc : Array Value → State → Outcome → State → Prop) (XC : String → State → State → Prop) (a : Array Value) (s : State) (mc ms : Nat) (free : Addr → Prop) : State → Prop := fun t =>
  ∃ o, t.status = .running ∧ Ended t below o ∧ vx_Q Qc XC mc ms free a s o t
theorem vx_ret {g : JFrame} {mc ms : Nat} (k : W p l e R s m args below meth c H locs cells slots (MQ below Qc args s mc ms free) g) : W p l e R s m args below meth c H locs cells slots (vx_MQ below Qc XC args s mc ms free) g := by
  intro T hT X
  obtain ⟨t, a1, o, b1, b2, b3, b4⟩ := k T hT X
  exact ⟨t, a1, o, b1, b2, Or.inl ⟨b3, b4⟩⟩
/-- not caught here: it goes on to the caller -/
theorem vx_widen {g : JFrame} {q : Addr} {k n : Nat} (h1 : cells ≤ k) (h2 : slots ≤ n) (kk : vx_W p l e R s m args below meth c H locs k n Q g q) : vx_W p l e R s m args below meth c H locs cells slots Q g q := fun T hT X => kk T hT (stand_widen X h1 h2)
theorem vx_out {pc : Nat} {E : String} {ce : Cell} {q : Addr} {mc ms : Nat} (hout : ∀ x ∈ c.exceptionTable.toList, covers x pc = false) (hlocks : meth.locks = false) (hcell : H[q]? = some ce) (hv : ce.vm = .none) (hcl : s.vm.findClass E = some ce.cls)
    (hx : ∀ t : State, t.heap = H → s.vm.Alike t.vm → XC E s t) (hf : ∀ z ∈ locs, free z.base) (hc : cells ≤ mc) (hs : slots ≤ ms) :
    vx_W p l e R s m args below meth c H locs cells slots (vx_MQ below Qc XC args s mc ms free) (F0 m pc ls rest) q := by
  intro T hT X
  obtain ⟨st1, hrun, hend, hW, hsm⟩ := X.leaveThrown q (g := F0 m pc ls rest) rfl rfl rfl hout hlocks
  have hcell9 : (T.setFrames (.throwing q :: below)).heap[q]? = some ce := by
    show T.heap[q]? = some ce
    rw [hT]; exact hcell
  exact ⟨_, st1, .threw q, hrun, hend, Or.inr ⟨q, rfl, E, ce, locs, hx _ hT hW.alike, hcell9, hv, hcl, hW, hsm.mono hc hs, hf⟩⟩
theorem vx_frame {U : State} {k n : Nat} (h : s.sameButNew ({ U with vm := s.vm } : State) locs k n) : s.heap.size ≤ U.heap.size ∧ ∀ q : Nat, q < s.heap.size → (∀ z ∈ locs, z.base ≠ q) → U.heap[q]? = s.heap[q]? := by
  obtain ⟨-, h2, -, -, -, h6⟩ := h
  refine ⟨h2, fun q hq hz => ?_⟩
  obtain ⟨c9, e1, e2, e3, e4⟩ := h6 q _ (Array.getElem?_eq_getElem hq)
  have hs : c9.slots = (s.heap[q]).slots := Array.ext_getElem? fun i => e4 i fun hm => hz _ hm rfl
  have h9 : c9 = s.heap[q] := by
    rw [hs] at e2
    exact e2
  have e5 : U.heap[q]? = some c9 := e1
  rw [e5, h9, Array.getElem?_eq_getElem hq]
/-- the words of a throw but the four that speak of the heap -/
def vx_no (w : Cond) : Bool := decide (w ≠ .isRef (.static Bundle.tN "UNASSIGNED_STACK" Bundle.steD)) && decide (w ≠ .isRef (.static Bundle.tN "SUPPRESSED_SENTINEL" Bundle.listD)) && decide (w ≠ .laysStatic Bundle.tN "UNASSIGNED_STACK" Bundle.steD) && decide (w ≠ .laysStatic Bundle.tN "SUPPRESSED_SENTINEL" Bundle.listD)
def vx_at0 (own : String) (ic : Nat) (X : String) (names : List String) : List Cond := (Bundle.ownAtoms0 own ic X names).filter vx_no
def vx_atS (own : String) (ic : Nat) (X : String) (names : List String) : List Cond := (Bundle.ownAtoms own ic X names).filter vx_no
/-- a word that the tables alone decide, or a good one -/
def vx_ot (w : Cond) : Bool := w.onTables || goodWord w
theorem vx_ot_at {args a' : Array Value} {s U : State} {w : Cond} (hW : s.WarmedH U.vm) (hvm : s.vm = U.vm) (hg : vx_ot w = true) (h : w.before args s = true) : w.before a' U = true := by
  simp only [vx_ot, Bool.or_eq_true] at hg
  rcases hg with hg | hg
  · exact va_tabs hg hvm h
  · exact word_at hW (good_of_word hg) h
/-- a list's words: the good ones out of the method's own list, the others by premises of their own -/
theorem vx_hat {args : Array Value} {s : State} {L B : List Cond} (h1 : ∀ w ∈ L.filter goodWord, w.before args s = true) (h2 : ∀ w ∈ L.filter (fun w => !goodWord w), w ∈ B) (h3 : ∀ w ∈ B, w.before args s = true) : ∀ w ∈ L, w.before args s = true := by
  intro w hw
  by_cases g : goodWord w = true
  · exact h1 w (List.mem_filter.mpr ⟨hw, g⟩)
  · refine h3 w (h2 w (List.mem_filter.mpr ⟨hw, ?_⟩))
    show (!goodWord w) = true
    cases hgw : goodWord w
    · rfl
    · exact absurd hgw g
theorem vx_c {args : Array Value} {s : State} {w : Cond} {B : List Cond} (h : w.before args s = true) (t : ∀ w ∈ B, w.before args s = true) : ∀ w' ∈ w :: B, w'.before args s = true := fun w' h' => (List.mem_cons.mp h').elim (fun e => by rw [e]; exact h) (t w')
theorem vx_n {args : Array Value} {s : State} : ∀ w ∈ ([] : List Cond), w.before args s = true := fun _ h => nomatch h
theorem vx_own {args : Array Value} {s : State} {L : List Cond} (h1 : ∀ w ∈ L.filter vx_no, w.before args s = true)
    (hU : (Cond.isRef (.static Bundle.tN "UNASSIGNED_STACK" Bundle.steD)).before args s = true) (hN : (Cond.isRef (.static Bundle.tN "SUPPRESSED_SENTINEL" Bundle.listD)).before args s = true)
    (lU : (Cond.laysStatic Bundle.tN "UNASSIGNED_STACK" Bundle.steD).before args s = true) (lN : (Cond.laysStatic Bundle.tN "SUPPRESSED_SENTINEL" Bundle.listD).before args s = true) : ∀ w ∈ L, w.before args s = true := by
  intro w hw
  by_cases e1 : w = .isRef (.static Bundle.tN "UNASSIGNED_STACK" Bundle.steD)
  · rw [e1]; exact hU
  · by_cases e2 : w = .isRef (.static Bundle.tN "SUPPRESSED_SENTINEL" Bundle.listD)
    · rw [e2]; exact hN
    · by_cases e3 : w = .laysStatic Bundle.tN "UNASSIGNED_STACK" Bundle.steD
      · rw [e3]; exact lU
      · by_cases e4 : w = .laysStatic Bundle.tN "SUPPRESSED_SENTINEL" Bundle.listD
        · rw [e4]; exact lN
        · exact h1 w (List.mem_filter.mpr ⟨hw, by unfold vx_no; rw [decide_eq_true e1, decide_eq_true e2, decide_eq_true e3, decide_eq_true e4]; rfl⟩)
/-- where a static field lies, its class's statics cell in H -/
def vx_L (C n d : String) (A : Nat → Prop) (U : State) (H : Heap) : Prop := ∃ (c : ClassId) (k : Class) (i : Nat) (f : Field) (a : Nat) (cell : Cell), U.vm.findClass C = some c ∧ U.fieldFound? C n d = some (c, k, i, f) ∧ f.isStatic = true ∧ k.statics = some a ∧ H[a]? = some cell ∧ cell.vm.isStatics = true ∧ cell.cls = c ∧ f.slot < cell.slots.size ∧ k.staticTypes[f.slot]? = some f.type ∧ ¬ A a
theorem vx_L.moved {C n d : String} {A : Nat → Prop} {u U : State} {H : Heap} (hvm : u.vm.Alike U.vm) (h : vx_L C n d A u H) : vx_L C n d A U H := by
  obtain ⟨c, k, i, f, a, cell, h1, h2, h3, h4, h5, h6, h7, h8, h9, h10⟩ := h
  obtain ⟨k', hi', he⟩ := State.fieldFound?_setVm hvm h2
  exact ⟨c, k', i, f, a, cell, by rw [hvm.findClass]; exact h1, hi', h3, by rw [he]; exact h4, h5, h6, h7, h8, by rw [he]; exact h9, h10⟩
theorem vx_L.kept {C n d : String} {A : Nat → Prop} {U : State} {H H1 : Heap} (h : vx_L C n d A U H) (hq : ∀ a : Nat, a < H.size → ¬ A a → H1[a]? = H[a]?) : vx_L C n d A U H1 := by
  obtain ⟨c, k, i, f, a, cell, h1, h2, h3, h4, h5, h6, h7, h8, h9, h10⟩ := h
  exact ⟨c, k, i, f, a, cell, h1, h2, h3, h4, by rw [hq a (Array.getElem?_eq_some_iff.mp h5).1 h10]; exact h5, h6, h7, h8, h9, h10⟩
theorem vx_L.narrow {C n d : String} {A B : Nat → Prop} {U : State} {H : Heap} (h : vx_L C n d A U H) (hAB : ∀ q, B q → A q) : vx_L C n d B U H := by
  obtain ⟨c, k, i, f, a, cell, h1, h2, h3, h4, h5, h6, h7, h8, h9, h10⟩ := h
  exact ⟨c, k, i, f, a, cell, h1, h2, h3, h4, h5, h6, h7, h8, h9, fun z => h10 (hAB _ z)⟩
theorem vx_L.word {C n d : String} {A : Nat → Prop} {s : State} {args : Array Value} (h : vx_L C n d A s s.heap) : (Cond.laysStatic C n d).before args s = true := by
  obtain ⟨c, k, i, f, a, cell, h1, h2, h3, h4, h5, h6, h7, h8, h9, -⟩ := h
  show (Cond.laysStatic C n d).holds args s none s [] = true
  exact Cond.laysStatic_of h1 h2 h3 h4 h5 h6 h7 h8 h9
/-- .. and what it holds: null or some reference -/
def vx_Zq (C n d : String) (A : Nat → Prop) (U : State) (H : Heap) : Prop := va_Zq C n d A U H ∧ vx_L C n d A U H
theorem vx_Zq.moved {C n d : String} {A : Nat → Prop} {u U : State} {H : Heap} (hvm : u.vm.Alike U.vm) (h : vx_Zq C n d A u H) : vx_Zq C n d A U H := ⟨va_Zq.moved hvm h.1, vx_L.moved hvm h.2⟩
theorem vx_Zq.kept {C n d : String} {A : Nat → Prop} {U : State} {H H1 : Heap} (h : vx_Zq C n d A U H) (hq : ∀ a : Nat, a < H.size → ¬ A a → H1[a]? = H[a]?) : vx_Zq C n d A U H1 := ⟨va_Zq.kept h.1 hq, vx_L.kept h.2 hq⟩
theorem vx_Zq.narrow {C n d : String} {A B : Nat → Prop} {U : State} {H : Heap} (h : vx_Zq C n d A U H) (hAB : ∀ q, B q → A q) : vx_Zq C n d B U H := ⟨va_Zq.narrow h.1 hAB, vx_L.narrow h.2 hAB⟩
theorem vx_Zqof {args : Array Value} {s : State} {C n d : String} {A : Nat → Prop} (hl : (Cond.laysStatic C n d).before args s = true) (hini : (Cond.initialized C).before args s = true) (h : (Cond.isRef (.static C n d)).before args s = true) (hA : ∀ a : Nat, a < s.heap.size → ¬ A a) : vx_Zq C n d A s s.heap := by
  refine ⟨va_Zqof hl hini h hA, ?_⟩
  obtain ⟨c, k, i, f, a, cell, h1, h2, h3, h4, h5, h6, h7, h8, h9⟩ := Cond.laysStatic_spec hl
  exact ⟨c, k, i, f, a, cell, h1, h2, h3, h4, h5, h6, h7, h8, h9, hA a (Array.getElem?_eq_some_iff.mp h5).1⟩
theorem vx_isRef {C n d : String} {v : Value} {A : Nat → Prop} {s : State} {args : Array Value} (h : va_Z C n d v A s s.heap) (hv : v.isRef = true) : (Cond.isRef (.static C n d)).before args s = true := by
  obtain ⟨cf, kf, fi, f, a, cell, h1, h2, h3, h4, h5, h6, h7, -⟩ := h
  have he : (Term.static C n d).eval args s none [] s = some v := by
    simp [Term.eval, State.fieldNamed?, h1, h2, h4, h5, h6, h7]
  simp only [Cond.before, Cond.holds, Cond.value, he]
  cases v <;> simp_all [Value.isRef]
theorem vx_isRefq {C n d : String} {A : Nat → Prop} {s : State} {args : Array Value} (h : va_Zq C n d A s s.heap) : (Cond.isRef (.static C n d)).before args s = true := by
  rcases h with h | ⟨t, h⟩
  · exact vx_isRef h rfl
  · exact vx_isRef h rfl
/-- the same frame, seen from here: as if the method were called anew in this heap -/
theorem vx_rebase {T : State} (X : Stand p l e R s m args below meth c T locs cells slots) {R' : Room} (hf : R'.frames ≤ R.frames) (hl : R'.locals ≤ R.locals) (hc : cells + R'.cells ≤ R.cells) (hs : slots + R'.slots ≤ R.slots) :
    Stand p l e R' ((T.setVm s.vm).setFrames (.invoking m args :: below)) m args below meth c T [] 0 0 := by
  have htop : (T.setVm s.vm).topJava?.isSome := X.here.top
  have hF : ((T.setVm s.vm).setFrames (.invoking m args :: below)).frames = .invoking m args :: below := State.frames_setFrames _ (State.cur_lt_of_top htop)
  obtain ⟨g₀, hg0⟩ := Option.isSome_iff_exists.mp htop
  obtain ⟨r, hr⟩ := State.topJava?_eq_some.mp hg0
  have hl9 : e.platform.stackLimits (T.setVm s.vm).me = e.platform.stackLimits s.me := X.limits
  have hb9 : (T.setVm s.vm).me.stackBytes = s.me.stackBytes := X.bytes
  refine ⟨X.admits, X.cas, X.clock, hF, ?_, X.hears, X.method, X.code, X.here, X.tail, X.warmed, ?_, ?_, ?_⟩
  · have h := X.room
    have hU : ((T.setVm s.vm).setFrames (.invoking m args :: below)).localsInUse = s.localsInUse := by
      rw [State.localsInUse_invoking hF (meth := meth) (c := c) X.method X.code, State.localsInUse_invoking X.frames X.method X.code]
    simp only [State.hasRoom, Bool.and_eq_true, decide_eq_true_eq] at h ⊢
    obtain ⟨⟨⟨⟨h1, h2, h3, h4, h5, h6⟩, h7⟩, h8⟩, h9⟩ := h
    rw [X.frames, List.length_cons] at h2 h3
    have q1 := X.heapSize
    have q2 := X.used
    simp only [hF, hU, List.length_cons, State.stackLimits_setFrames, State.stackBytes_setFrames, hl9, hb9]
    refine ⟨⟨⟨⟨by omega, by omega, by omega, by omega, by omega, h6⟩, ?_⟩, ?_⟩, X.book⟩
    · show T.heap.size + R'.cells ≤ e.platform.maxCells
      omega
    · show T.slotsUsed + R'.slots ≤ e.platform.maxSlots
      omega
  · rw [State.stackLimits_setFrames]; rfl
  · rw [State.stackBytes_setFrames]; rfl
  · refine ⟨?_, Nat.le_refl _, Nat.le_refl _, ?_, ?_, fun a c9 h9 => ⟨c9, h9, rfl, rfl, fun _ _ => rfl⟩⟩
    · obtain ⟨t, ht, -⟩ := State.frames_cons hr
      show T.setVm s.vm = { ((T.setVm s.vm).setFrames (.invoking m args :: below)).setFrames (T.setVm s.vm).frames with heap := T.heap, slotsUsed := T.slotsUsed }
      rw [State.setFrames_setFrames, State.setFrames_self ht]
      rfl
    · show T.slotsUsed = T.slotsUsed + ((T.heap.toList.drop T.heap.size).map (·.slots.size)).sum
      rw [List.drop_eq_nil_of_le (Nat.le_of_eq Array.length_toList)]
      rfl
    · show ((T.heap.toList.drop T.heap.size).map (·.slots.size)).sum ≤ 0
      rw [List.drop_eq_nil_of_le (Nat.le_of_eq Array.length_toList)]
      exact Nat.le_refl _
/-- 'throw new E()': new; dup; invokespecial; athrow -/
theorem vx_throw0 {cc : ByteArray} {pc : Nat} (hexec : p.tables.exec = Jvm.exec) (hb : c.code = cc) (hl : l.stackTraces = false) {own cls : String} {names : List String} {ik ic mc ms : Nat} {A : Nat → Prop}
    (hown : s.vm.findClass own = some m.cls) (hcls : Bundle.fit cls = true) (hnames : ∀ n ∈ names, Bundle.fit n = true)
    (hk : (Cond.classLink own ik cls).before args s = true) (hini : (Cond.initialized cls).before args s = true) (hat : ∀ w ∈ vx_at0 own ic cls names, w.before args s = true)
    (hgood : ∀ w ∈ Cond.classLink own ik cls :: Cond.initialized cls :: vx_at0 own ic cls names, vx_ot w = true)
    (hU : vx_Zq Bundle.tN "UNASSIGNED_STACK" Bundle.steD A s s.heap) (hN : vx_Zq Bundle.tN "SUPPRESSED_SENTINEL" Bundle.listD A s s.heap) (hS : va_S A s.heap H locs) (hsize : ls.size = c.maxLocals)
    (d0 : decode cc pc = .ok (.new ik, 3)) (d3 : decode cc (pc + 3) = .ok (.dup, 1)) (d4 : decode cc (pc + 4) = .ok (.invokespecial ic, 3)) (d7 : decode cc (pc + 7) = .ok (.athrow, 1))
    (hout : ∀ x ∈ c.exceptionTable.toList, covers x (pc + 7) = false)
    (hRframes : names.length + 3 < R.frames) (hRlocals : (rest.map fun v => v.category).sum + (13 * (names.length + 1) + 42) ≤ R.locals) (hRcells : cells + 1 ≤ R.cells) (hRslots : slots + 6 ≤ R.slots) (hlocks : meth.locks = false)
    (hx : ∀ t : State, s.vm.Alike t.vm → H.size ≤ t.heap.size → (∀ q : Nat, q < H.size → t.heap[q]? = H[q]?) → XC cls s t)
    (hf : ∀ z ∈ locs, free z.base) (hc : cells + 1 ≤ mc) (hs : slots + 6 ≤ ms) :
    W p l e R s m args below meth c H locs cells slots (vx_MQ below Qc XC args s mc ms free) (F0 m pc ls rest) := by
  intro T hT X
  have htr : e.platform.stackTraces = false := (show e.platform.stackTraces = l.stackTraces by rw [X.admits.platform]).trans hl
  have Y := vx_rebase X (R' := { frames := R.frames, locals := R.locals, cells := 1, slots := 6 }) (Nat.le_refl _) (Nat.le_refl _) hRcells hRslots
  obtain ⟨s', hA⟩ : ∃ z, z = (T.setVm s.vm).setFrames (.invoking m args :: below) := ⟨_, rfl⟩
  rw [← hA] at Y
  have hvm : s'.vm = s.vm := by rw [hA]; rfl
  have hhp : s'.heap = H := by rw [hA]; exact hT
  have hW0 : s.WarmedH s'.vm := by rw [hvm]; exact State.WarmedH.refl s
  have hat' : ∀ w ∈ vx_at0 own ic cls names, w.before args s' = true := fun w hw => vx_ot_at hW0 hvm.symm (hgood w (List.mem_cons_of_mem _ (List.mem_cons_of_mem _ hw))) (hat w hw)
  have hk' : (Cond.classLink own ik cls).before args s' = true := vx_ot_at hW0 hvm.symm (hgood _ List.mem_cons_self) hk
  have hini' : (Cond.initialized cls).before args s' = true := vx_ot_at hW0 hvm.symm (hgood _ (List.mem_cons_of_mem _ List.mem_cons_self)) hini
  have hU' : vx_Zq Bundle.tN "UNASSIGNED_STACK" Bundle.steD A s' s'.heap := by rw [hhp]; exact vx_Zq.moved hW0.alike (hU.kept hS.2.1)
  have hN' : vx_Zq Bundle.tN "SUPPRESSED_SENTINEL" Bundle.listD A s' s'.heap := by rw [hhp]; exact vx_Zq.moved hW0.alike (hN.kept hS.2.1)
  have h : ∀ w ∈ Bundle.ownAtoms0 own ic cls names, w.before args s' = true := vx_own hat' (vx_isRefq hU'.1) (vx_isRefq hN'.1) hU'.2.word hN'.2.word
  have hown' : s'.vm.findClass own = some m.cls := by rw [hvm]; exact hown
  have hins : (Cond.instantiable cls 6).before args s' = true := h _ (by simp [Bundle.ownAtoms0])
  obtain ⟨vm₁, cX, kX, hfX, hkX, -, -, X₁, st1⟩ := Y.newCold hexec (own := own) (C := cls) (index := ik) (n := 6) hown' hk' hins hini'
    (g := F0 m pc ls rest) rfl (by rw [hb]; exact d0) (Nat.le_refl _) (Nat.le_refl _)
  generalize hT1 : (T.setVm vm₁).pushCell { cls := cX, slots := kX.instanceTypes.map defaultValue, vm := .none } = T1 at X₁ st1
  have hcat : (Value.ref T.heap.size).category = 1 := rfl
  have hcellA : T1.heap[T.heap.size]? = some (freshCell cX kX) := by rw [← hT1]; exact State.heap_pushCell_size _ _
  have d3' : decode c.code (pc + 3) = .ok (.dup, 1) := by rw [hb]; exact d3
  obtain ⟨U, hsteps, hrun, hend, hW, hsame, ce, hce, hO⟩ := X₁.ctorThrow0 hexec htr (own := own) (cls := cls) (names := names) (ic := ic) hown' hcls hnames h (fun x hx => nomatch hx) hfX hkX hcellA (by rw [hhp, hT]; exact Nat.le_refl _)
    (g := { method := m, pc := pc + 4, locals := ls, stack := .ref T.heap.size :: .ref T.heap.size :: rest, locked := none }) rfl hsize rfl rfl (rest := rest) rfl
    (by rw [hb]; exact d4) (by rw [hb]; exact d7) hout hRframes (by simp only [List.map_cons, List.sum_cons, hcat]; omega) hlocks
  obtain ⟨f1, f2⟩ := vx_frame hsame
  rw [hhp] at f1 f2
  have hWs : s.WarmedH U.vm := State.WarmedH.trans hW0 hW
  have hcl : s.vm.findClass cls = some ce.cls := by
    have h9 := hO.cls
    rw [hvm] at h9
    exact h9
  have hall : s.sameButNew ({ U with vm := s.vm } : State) locs mc ms := by
    subst hA
    obtain ⟨e1, e2⟩ := hsame
    rw [State.setFrames_setFrames] at e1
    have h2 : (T.setVm s.vm).sameButNew ({ U with vm := s.vm } : State) [] (0 + 1) (0 + 6) := ⟨e1, e2⟩
    have h3 := X.same.trans h2
    rw [List.append_nil] at h3
    exact h3.mono hc hs
  refine ⟨U, ?_, .threw T.heap.size, hrun, hend, Or.inr ⟨T.heap.size, rfl, cls, ce, locs, hx U hWs.alike f1 (fun q hq => f2 q hq (fun z hz => nomatch hz)), hce, hO.vm, hcl, hWs, hall, hf⟩⟩
  refine st1 _ ?_
  show Steps p.tables e below (T1.setTop { method := m, pc := pc + 3, locals := ls, stack := .ref T.heap.size :: rest, locked := none }) _
  jvm_step X₁.here [X₁.here.top, hexec, d3', Value.category]
  exact hsteps
/-- 'throw new E("text")': new; dup; ldc; invokespecial; athrow -/
theorem vx_throwS {cc : ByteArray} {pc : Nat} (hexec : p.tables.exec = Jvm.exec) (hb : c.code = cc) (hl : l.stackTraces = false) {own cls text : String} {names : List String} {ik is ic mc ms sa : Nat} {A : Nat → Prop}
    (hown : s.vm.findClass own = some m.cls) (hcls : Bundle.fit cls = true) (hnames : ∀ n ∈ names, Bundle.fit n = true)
    (hk : (Cond.classLink own ik cls).before args s = true) (hini : (Cond.initialized cls).before args s = true) (hstr : vk_R own is text sa s) (hat : ∀ w ∈ vx_atS own ic cls names, w.before args s = true)
    (hgood : ∀ w ∈ Cond.classLink own ik cls :: Cond.initialized cls :: vx_atS own ic cls names, vx_ot w = true)
    (hU : vx_Zq Bundle.tN "UNASSIGNED_STACK" Bundle.steD A s s.heap) (hN : vx_Zq Bundle.tN "SUPPRESSED_SENTINEL" Bundle.listD A s s.heap) (hS : va_S A s.heap H locs) (hsize : ls.size = c.maxLocals)
    (d0 : decode cc pc = .ok (.new ik, 3)) (d3 : decode cc (pc + 3) = .ok (.dup, 1)) (d4 : decode cc (pc + 4) = .ok (.ldc is, 2)) (d6 : decode cc (pc + 6) = .ok (.invokespecial ic, 3)) (d9 : decode cc (pc + 9) = .ok (.athrow, 1))
    (hout : ∀ x ∈ c.exceptionTable.toList, covers x (pc + 9) = false)
    (hRframes : names.length + 3 < R.frames) (hRlocals : (rest.map fun v => v.category).sum + (13 * (names.length + 1) + 43) ≤ R.locals) (hRcells : cells + 1 ≤ R.cells) (hRslots : slots + 6 ≤ R.slots) (hlocks : meth.locks = false)
    (hx : ∀ t : State, s.vm.Alike t.vm → H.size ≤ t.heap.size → (∀ q : Nat, q < H.size → t.heap[q]? = H[q]?) → XC cls s t)
    (hf : ∀ z ∈ locs, free z.base) (hc : cells + 1 ≤ mc) (hs : slots + 6 ≤ ms) :
    W p l e R s m args below meth c H locs cells slots (vx_MQ below Qc XC args s mc ms free) (F0 m pc ls rest) := by
  intro T hT X
  have htr : e.platform.stackTraces = false := (show e.platform.stackTraces = l.stackTraces by rw [X.admits.platform]).trans hl
  have Y := vx_rebase X (R' := { frames := R.frames, locals := R.locals, cells := 1, slots := 6 }) (Nat.le_refl _) (Nat.le_refl _) hRcells hRslots
  obtain ⟨s', hA⟩ : ∃ z, z = (T.setVm s.vm).setFrames (.invoking m args :: below) := ⟨_, rfl⟩
  rw [← hA] at Y
  have hvm : s'.vm = s.vm := by rw [hA]; rfl
  have hhp : s'.heap = H := by rw [hA]; exact hT
  have hW0 : s.WarmedH s'.vm := by rw [hvm]; exact State.WarmedH.refl s
  have hat' : ∀ w ∈ vx_atS own ic cls names, w.before args s' = true := fun w hw => vx_ot_at hW0 hvm.symm (hgood w (List.mem_cons_of_mem _ (List.mem_cons_of_mem _ hw))) (hat w hw)
  have hk' : (Cond.classLink own ik cls).before args s' = true := vx_ot_at hW0 hvm.symm (hgood _ List.mem_cons_self) hk
  have hini' : (Cond.initialized cls).before args s' = true := vx_ot_at hW0 hvm.symm (hgood _ (List.mem_cons_of_mem _ List.mem_cons_self)) hini
  have hU' : vx_Zq Bundle.tN "UNASSIGNED_STACK" Bundle.steD A s' s'.heap := by rw [hhp]; exact vx_Zq.moved hW0.alike (hU.kept hS.2.1)
  have hN' : vx_Zq Bundle.tN "SUPPRESSED_SENTINEL" Bundle.listD A s' s'.heap := by rw [hhp]; exact vx_Zq.moved hW0.alike (hN.kept hS.2.1)
  have h : ∀ w ∈ Bundle.ownAtoms own ic cls names, w.before args s' = true := vx_own hat' (vx_isRefq hU'.1) (vx_isRefq hN'.1) hU'.2.word hN'.2.word
  have hown' : s'.vm.findClass own = some m.cls := by rw [hvm]; exact hown
  have hins : (Cond.instantiable cls 6).before args s' = true := h _ (by simp [Bundle.ownAtoms])
  obtain ⟨vm₁, cX, kX, hfX, hkX, -, -, X₁, st1⟩ := Y.newCold hexec (own := own) (C := cls) (index := ik) (n := 6) hown' hk' hins hini'
    (g := F0 m pc ls rest) rfl (by rw [hb]; exact d0) (Nat.le_refl _) (Nat.le_refl _)
  generalize hT1 : (T.setVm vm₁).pushCell { cls := cX, slots := kX.instanceTypes.map defaultValue, vm := .none } = T1 at X₁ st1
  have hcat : (Value.ref T.heap.size).category = 1 := rfl
  have hcellA : T1.heap[T.heap.size]? = some (freshCell cX kX) := by rw [← hT1]; exact State.heap_pushCell_size _ _
  have d3' : decode c.code (pc + 3) = .ok (.dup, 1) := by rw [hb]; exact d3
  have d4' : decode c.code (pc + 4) = .ok (.ldc is, 2) := by rw [hb]; exact d4
  have hstr' : vk_R own is text sa s' := vk_R.warm hW0 hstr
  obtain ⟨U, hsteps, hrun, hend, hW, hsame, ce, hce, hO⟩ := X₁.ctorThrowS hexec htr (own := own) (cls := cls) (names := names) (ic := ic) hown' hcls hnames h (fun x hx => nomatch hx) hfX hkX hcellA (by rw [hhp, hT]; exact Nat.le_refl _) (msg := .ref sa) rfl
    (g := { method := m, pc := pc + 6, locals := ls, stack := .ref sa :: .ref T.heap.size :: .ref T.heap.size :: rest, locked := none }) rfl hsize rfl rfl (rest := rest) rfl
    (by rw [hb]; exact d6) (by rw [hb]; exact d9) hout hRframes (by simp only [List.map_cons, List.sum_cons, hcat]; omega) hlocks
  obtain ⟨f1, f2⟩ := vx_frame hsame
  rw [hhp] at f1 f2
  have hWs : s.WarmedH U.vm := State.WarmedH.trans hW0 hW
  have hcl : s.vm.findClass cls = some ce.cls := by
    have h9 := hO.cls
    rw [hvm] at h9
    exact h9
  have hall : s.sameButNew ({ U with vm := s.vm } : State) locs mc ms := by
    subst hA
    obtain ⟨e1, e2⟩ := hsame
    rw [State.setFrames_setFrames] at e1
    have h2 : (T.setVm s.vm).sameButNew ({ U with vm := s.vm } : State) [] (0 + 1) (0 + 6) := ⟨e1, e2⟩
    have h3 := X.same.trans h2
    rw [List.append_nil] at h3
    exact h3.mono hc hs
  refine ⟨U, ?_, .threw T.heap.size, hrun, hend, Or.inr ⟨T.heap.size, rfl, cls, ce, locs, hx U hWs.alike f1 (fun q hq => f2 q hq (fun z hz => nomatch hz)), hce, hO.vm, hcl, hWs, hall, hf⟩⟩
  refine st1 _ ?_
  show Steps p.tables e below (T1.setTop { method := m, pc := pc + 3, locals := ls, stack := .ref T.heap.size :: rest, locked := none }) _
  jvm_step X₁.here [X₁.here.top, hexec, d3', Value.category]
  exact X₁.ldcString hexec (own := own) (text := text) (index := is) (a := sa) hown' hstr'.1 hstr'.2
    (g := { method := m, pc := pc + 4, locals := ls, stack := .ref T.heap.size :: .ref T.heap.size :: rest, locked := none }) rfl d4' _ hsteps
/-- 'throw new E("text")', the text by a wide index -/
theorem vx_throwSW {cc : ByteArray} {pc : Nat} (hexec : p.tables.exec = Jvm.exec) (hb : c.code = cc) (hl : l.stackTraces = false) {own cls text : String} {names : List String} {ik is ic mc ms sa : Nat} {A : Nat → Prop}
    (hown : s.vm.findClass own = some m.cls) (hcls : Bundle.fit cls = true) (hnames : ∀ n ∈ names, Bundle.fit n = true)
    (hk : (Cond.classLink own ik cls).before args s = true) (hini : (Cond.initialized cls).before args s = true) (hstr : vk_R own is text sa s) (hat : ∀ w ∈ vx_atS own ic cls names, w.before args s = true)
    (hgood : ∀ w ∈ Cond.classLink own ik cls :: Cond.initialized cls :: vx_atS own ic cls names, vx_ot w = true)
    (hU : vx_Zq Bundle.tN "UNASSIGNED_STACK" Bundle.steD A s s.heap) (hN : vx_Zq Bundle.tN "SUPPRESSED_SENTINEL" Bundle.listD A s s.heap) (hS : va_S A s.heap H locs) (hsize : ls.size = c.maxLocals)
    (d0 : decode cc pc = .ok (.new ik, 3)) (d3 : decode cc (pc + 3) = .ok (.dup, 1)) (d4 : decode cc (pc + 4) = .ok (.ldc_w is, 3)) (d7 : decode cc (pc + 7) = .ok (.invokespecial ic, 3)) (d10 : decode cc (pc + 10) = .ok (.athrow, 1))
    (hout : ∀ x ∈ c.exceptionTable.toList, covers x (pc + 10) = false)
    (hRframes : names.length + 3 < R.frames) (hRlocals : (rest.map fun v => v.category).sum + (13 * (names.length + 1) + 43) ≤ R.locals) (hRcells : cells + 1 ≤ R.cells) (hRslots : slots + 6 ≤ R.slots) (hlocks : meth.locks = false)
    (hx : ∀ t : State, s.vm.Alike t.vm → H.size ≤ t.heap.size → (∀ q : Nat, q < H.size → t.heap[q]? = H[q]?) → XC cls s t)
    (hf : ∀ z ∈ locs, free z.base) (hc : cells + 1 ≤ mc) (hs : slots + 6 ≤ ms) :
    W p l e R s m args below meth c H locs cells slots (vx_MQ below Qc XC args s mc ms free) (F0 m pc ls rest) := by
  intro T hT X
  have htr : e.platform.stackTraces = false := (show e.platform.stackTraces = l.stackTraces by rw [X.admits.platform]).trans hl
  have Y := vx_rebase X (R' := { frames := R.frames, locals := R.locals, cells := 1, slots := 6 }) (Nat.le_refl _) (Nat.le_refl _) hRcells hRslots
  obtain ⟨s', hA⟩ : ∃ z, z = (T.setVm s.vm).setFrames (.invoking m args :: below) := ⟨_, rfl⟩
  rw [← hA] at Y
  have hvm : s'.vm = s.vm := by rw [hA]; rfl
  have hhp : s'.heap = H := by rw [hA]; exact hT
  have hW0 : s.WarmedH s'.vm := by rw [hvm]; exact State.WarmedH.refl s
  have hat' : ∀ w ∈ vx_atS own ic cls names, w.before args s' = true := fun w hw => vx_ot_at hW0 hvm.symm (hgood w (List.mem_cons_of_mem _ (List.mem_cons_of_mem _ hw))) (hat w hw)
  have hk' : (Cond.classLink own ik cls).before args s' = true := vx_ot_at hW0 hvm.symm (hgood _ List.mem_cons_self) hk
  have hini' : (Cond.initialized cls).before args s' = true := vx_ot_at hW0 hvm.symm (hgood _ (List.mem_cons_of_mem _ List.mem_cons_self)) hini
  have hU' : vx_Zq Bundle.tN "UNASSIGNED_STACK" Bundle.steD A s' s'.heap := by rw [hhp]; exact vx_Zq.moved hW0.alike (hU.kept hS.2.1)
  have hN' : vx_Zq Bundle.tN "SUPPRESSED_SENTINEL" Bundle.listD A s' s'.heap := by rw [hhp]; exact vx_Zq.moved hW0.alike (hN.kept hS.2.1)
  have h : ∀ w ∈ Bundle.ownAtoms own ic cls names, w.before args s' = true := vx_own hat' (vx_isRefq hU'.1) (vx_isRefq hN'.1) hU'.2.word hN'.2.word
  have hown' : s'.vm.findClass own = some m.cls := by rw [hvm]; exact hown
  have hins : (Cond.instantiable cls 6).before args s' = true := h _ (by simp [Bundle.ownAtoms])
  obtain ⟨vm₁, cX, kX, hfX, hkX, -, -, X₁, st1⟩ := Y.newCold hexec (own := own) (C := cls) (index := ik) (n := 6) hown' hk' hins hini'
    (g := F0 m pc ls rest) rfl (by rw [hb]; exact d0) (Nat.le_refl _) (Nat.le_refl _)
  generalize hT1 : (T.setVm vm₁).pushCell { cls := cX, slots := kX.instanceTypes.map defaultValue, vm := .none } = T1 at X₁ st1
  have hcat : (Value.ref T.heap.size).category = 1 := rfl
  have hcellA : T1.heap[T.heap.size]? = some (freshCell cX kX) := by rw [← hT1]; exact State.heap_pushCell_size _ _
  have d3' : decode c.code (pc + 3) = .ok (.dup, 1) := by rw [hb]; exact d3
  have d4' : decode c.code (pc + 4) = .ok (.ldc_w is, 3) := by rw [hb]; exact d4
  have hstr' : vk_R own is text sa s' := vk_R.warm hW0 hstr
  obtain ⟨U, hsteps, hrun, hend, hW, hsame, ce, hce, hO⟩ := X₁.ctorThrowS hexec htr (own := own) (cls := cls) (names := names) (ic := ic) hown' hcls hnames h (fun x hx => nomatch hx) hfX hkX hcellA (by rw [hhp, hT]; exact Nat.le_refl _) (msg := .ref sa) rfl
    (g := { method := m, pc := pc + 7, locals := ls, stack := .ref sa :: .ref T.heap.size :: .ref T.heap.size :: rest, locked := none }) rfl hsize rfl rfl (rest := rest) rfl
    (by rw [hb]; exact d7) (by rw [hb]; exact d10) hout hRframes (by simp only [List.map_cons, List.sum_cons, hcat]; omega) hlocks
  obtain ⟨f1, f2⟩ := vx_frame hsame
  rw [hhp] at f1 f2
  have hWs : s.WarmedH U.vm := State.WarmedH.trans hW0 hW
  have hcl : s.vm.findClass cls = some ce.cls := by
    have h9 := hO.cls
    rw [hvm] at h9
    exact h9
  have hall : s.sameButNew ({ U with vm := s.vm } : State) locs mc ms := by
    subst hA
    obtain ⟨e1, e2⟩ := hsame
    rw [State.setFrames_setFrames] at e1
    have h2 : (T.setVm s.vm).sameButNew ({ U with vm := s.vm } : State) [] (0 + 1) (0 + 6) := ⟨e1, e2⟩
    have h3 := X.same.trans h2
    rw [List.append_nil] at h3
    exact h3.mono hc hs
  refine ⟨U, ?_, .threw T.heap.size, hrun, hend, Or.inr ⟨T.heap.size, rfl, cls, ce, locs, hx U hWs.alike f1 (fun q hq => f2 q hq (fun z hz => nomatch hz)), hce, hO.vm, hcl, hWs, hall, hf⟩⟩
  refine st1 _ ?_
  show Steps p.tables e below (T1.setTop { method := m, pc := pc + 3, locals := ls, stack := .ref T.heap.size :: rest, locked := none }) _
  jvm_step X₁.here [X₁.here.top, hexec, d3', Value.category]
  exact X₁.ldcStringW hexec (own := own) (text := text) (index := is) (a := sa) hown' hstr'.1 hstr'.2
    (g := { method := m, pc := pc + 4, locals := ls, stack := .ref T.heap.size :: .ref T.heap.size :: rest, locked := none }) rfl d4' _ hsteps
end Ends
section Bodies
variable {l : Launch}
theorem vx_ofW {y : MethodName} {ws ws' : List Cond} {rm : Room} {Pc : Array Value → State → Prop} {Qc : Array Value → State → Outcome → State → Prop} {XC : String → State → State → Prop} {mc ms : Nat} {free : Addr → Prop} {cc : ByteArray} {maxL : Nat} {ret : Option FieldType}
    (hy : plainName y.cls = true) (hw : ws = Cond.code y cc maxL ret :: ws')
    (body : ∀ p e s m args below meth c s₁, BodyLoose p l y (headSpec ws rm) cc maxL ret e s m args below meth c s₁ → c.maxLocals = maxL → (∀ x ∈ c.exceptionTable.toList, False) → Pc args s →
      W p l e (headSpec ws rm).room s m args below meth c s.heap [] 0 0 (vx_MQ below Qc XC args s mc ms free) (entryFrame m args maxL)) : vx_Met l y ws rm Pc Qc XC mc ms free := by
  refine MetFree.of_bodyS (code := cc) (maxLocals := maxL) (ret := ret) hy ?_ ?_
  · intro args s m h hn
    obtain ⟨meth, c, h1, h2, h3, h4, h5, h6, -, -⟩ := Cond.code_spec hn (atoms_spec (ws := ws) h _ (by rw [hw]; exact List.mem_cons_self))
    exact ⟨meth, c, h1, h2, h3, h4, h5, h6⟩
  · intro p e s m args below meth c s₁ B hml hP _
    have hh0 : s₁.heap = s.heap := by rw [B.state]; rfl
    have ht : ∀ x ∈ c.exceptionTable.toList, False := by
      obtain ⟨meth9, c9, h1, h2, -, -, -, -, h7, -⟩ := Cond.code_spec B.named (atoms_spec (ws := ws) B.pre _ (by rw [hw]; exact List.mem_cons_self))
      cases Option.some.inj (h1.symm.trans B.method)
      cases Option.some.inj (h2.symm.trans (Stand.of_body B).code)
      intro x hx
      rw [Array.isEmpty_iff.mp h7] at hx
      cases hx
    obtain ⟨t, a1, o, b1, b2, b3⟩ := body p e s m args below meth c s₁ B hml ht hP s₁ hh0 (Stand.of_body B)
    exact ⟨t, o, a1, b1, b2, b3⟩
/-- the table of a body with handlers -/
theorem vx_table {p : Program} {x y : MethodName} {S : Spec} {cc bytes : ByteArray} {maxL maxL' : Nat} {ret ret' : Option FieldType} {e : Env} {s s₁ : State} {m : MethodId} {args : Array Value} {below : List Frame} {meth : Method} {c : Code} {hh : List (Nat × Nat × Nat × Nat)}
    (B : BodyLoose p l y S cc maxL ret e s m args below meth c s₁) (h : (Cond.codeWith y bytes maxL' ret' hh).before args s = true) : c.exceptionTable.toList = tableOf hh := by
  obtain ⟨m9, meth9, c9, hn9, h1, h2, -, -, h6, -⟩ := Cond.codeWith_spec h
  cases Option.some.inj (hn9.symm.trans B.named)
  cases Option.some.inj (h1.symm.trans B.method)
  cases Option.some.inj (h2.symm.trans (Stand.of_body B).code)
  rw [← h6, table_eq]
end Bodies
end VXA
/-! ===== END ===== -/
/-! ===== BEGIN a static call of a method with an exception table ===== -/
section VXS
variable {p : Program} {l : Launch} {e : Env} {R : Room} {s : State} {m : MethodId} {args : Array Value} {below : List Frame} {meth : Method} {c : Code} {T : State} {H : Heap} {locs : List Loc} {cells slots : Nat}
abbrev vx_CSW (R : Room) (s : State) (args : Array Value) (own : String) (index : Nat) (y : MethodName) (bytes : ByteArray) (maxL : Nat) (ret : Option FieldType) (hh : List (Nat × Nat × Nat × Nat)) (ws : List Cond) (rm : Room) (mc ms n : Nat) : Prop :=
  (rm.cells = mc ∧ rm.slots = ms ∧ rm.frames + 1 ≤ R.frames ∧ 8 + (maxL + 11) + rm.locals ≤ R.locals ∧ (∀ w ∈ ws, ∀ (a' : Array Value) (U : State), s.WarmedH U.vm → w.before a' U = true) ∧ Cond.codeWith y bytes maxL ret hh ∈ ws) ∧
  (Cond.codeWith y bytes maxL ret hh).before args s = true ∧ (Cond.initialized y.cls).before args s = true ∧ (y.cls ≠ "java/lang/invoke/MethodHandle" ∧ y.cls ≠ "java/lang/invoke/VarHandle") ∧
  (∀ sig, parseMethodDescriptor y.desc = some sig → n = sig.parameters.length) ∧ (Cond.methodLink own index y).before args s = true ∧ (Cond.static y).before args s = true
theorem vx_cwSW {own : String} {index maxL mc ms : Nat} {y : MethodName} {bytes : ByteArray} {ret : Option FieldType} {hh : List (Nat × Nat × Nat × Nat)} {Ts ws ws' : List Cond} {rm : Room} (n : Nat) (ht : ∀ w ∈ Ts, w.before args s = true) (hT : GoodIn Ts (va_wsS own index y ws)) (hw : ws = Cond.codeWith y bytes maxL ret hh :: ws') (hrc : rm.cells = mc) (hrs : rm.slots = ms)
    (hd : y.cls ≠ "java/lang/invoke/MethodHandle" ∧ y.cls ≠ "java/lang/invoke/VarHandle" ∧ (parseMethodDescriptor y.desc).map (fun d => d.parameters.length) = some n) (hR : rm.frames + 1 ≤ R.frames ∧ 8 + (maxL + 11) + rm.locals ≤ R.locals) :
    vx_CSW R s args own index y bytes maxL ret hh ws rm mc ms n := by
  have ok : ∀ w ∈ va_wsS own index y ws, w.before args s = true := fun w h => ht w (hT w h).1
  have hG : GoodIn Ts ws := fun w h => hT w (by unfold va_wsS; exact List.mem_append_right _ h)
  have hc : Cond.codeWith y bytes maxL ret hh ∈ ws := by rw [hw]; exact List.mem_cons_self
  refine ⟨⟨hrc, hrs, hR.1, hR.2, pay_in ht hG, hc⟩, ht _ (hG _ hc).1, ok _ (by simp [va_wsS]), ⟨hd.1, hd.2.1⟩, fun sig h => ?_, ok _ (by simp [va_wsS]), ok _ (by simp [va_wsS])⟩
  have h2 := hd.2.2
  rw [h] at h2
  exact (Option.some.inj h2).symm
theorem vx_callSW (X : Stand p l e R s m args below meth c T locs cells slots) (hexec : p.tables.exec = Jvm.exec) {own : String} {index : Nat} {y : MethodName} {bytes : ByteArray} {maxL : Nat} {ret : Option FieldType} {hh : List (Nat × Nat × Nat × Nat)}
    (hown : s.vm.findClass own = some m.cls) (hlink : (Cond.methodLink own index y).before args s = true) (hstat : (Cond.static y).before args s = true) (hinit : (Cond.initialized y.cls).before args s = true)
    (hcode : (Cond.codeWith y bytes maxL ret hh).before args s = true) (hy : y.cls ≠ "java/lang/invoke/MethodHandle" ∧ y.cls ≠ "java/lang/invoke/VarHandle")
    {W9 : Nat} {Pre : Pt → Array Value → Prop} {Post : Pt → Array Value → Option Value → Pt → Prop} (hK : Back l R p e below s args y 3 W9 Pre Post)
    {g : JFrame} (hg : g.method = m) (hsize : g.locals.size = c.maxLocals) {argsL rest : List Value} (hlen : ∀ sig, parseMethodDescriptor y.desc = some sig → argsL.length = sig.parameters.length)
    (hstack : g.stack = argsL.reverse ++ rest) (hW : 2 * g.monitorRoom + (rest.map fun v => v.category).sum ≤ W9) (hdg : decode c.code g.pc = .ok (.invokestatic index, 3))
    (hpre : ∀ vm₁, s.WarmedH vm₁ → Pre ⟨T.setVm vm₁, locs, cells, slots⟩ argsL.toArray) :
    ∃ (v : Option Value) (vm₁ : Vm) (B : Pt), s.WarmedH vm₁ ∧ Stand p l e R s m args below meth c B.U B.locs B.cells B.slots ∧ Post ⟨T.setVm vm₁, locs, cells, slots⟩ argsL.toArray v B ∧
      ∀ target, Steps p.tables e below (B.U.setTop { g with pc := g.pc + 3, stack := v.toList ++ rest }) target → Steps p.tables e below (T.setTop g) target := by
  obtain ⟨mk, methM, cM, hnamed, hmethM, -, -, -, -, -, -, hsigM⟩ := Cond.codeWith_spec hcode
  have hstatic : methM.isStatic = true := Cond.static_spec hnamed hmethM hstat
  obtain ⟨kP, hkP, -⟩ := className_of_methodNamed hnamed
  have hinitP : kP.init = .initialized := Cond.initialized_spec (findClass_of_methodNamed hnamed) hkP hinit
  obtain ⟨vm₁, X₁, hstep₁⟩ := X.invokestatic hexec hown hlink hnamed hmethM hstatic hkP hinitP hy (g := g) hg (argsL := argsL) (rest := rest) (hlen _ hsigM) hstack hdg
  obtain ⟨v, B, X', hpost, hsteps⟩ := hK m meth c ⟨T.setVm vm₁, locs, cells, slots⟩ { g with stack := rest } (.invokestatic index) mk argsL.toArray X₁ hg hsize hdg hW (X₁.named hnamed) (hpre vm₁ X₁.warmed)
  exact ⟨v, vm₁, B, X₁.warmed, X', hpost, fun target h => hstep₁ _ fun acts => by rw [doInvoke_state]; exact hsteps.trans h⟩
theorem vx_runSW {y : MethodName} {bytes cc : ByteArray} {maxL nL mc ms n index : Nat} {ret : Option FieldType} {hh : List (Nat × Nat × Nat × Nat)} {ws : List Cond} {rm : Room} {Pc : Array Value → State → Prop} {Qc : Array Value → State → Outcome → State → Prop} {free : Addr → Prop} {Ts : List Cond} {own : String} {As rest : List Value} {g : JFrame}
    (S : CallFix p m c cc nL s args Ts own) (hM : Met l y ws rm Pc Qc mc ms free) (cw : vx_CSW R s args own index y bytes maxL ret hh ws rm mc ms n) (hp : PreS s H Pc As)
    (hg : g.method = m) (hn : As.length = n) (hsize : g.locals.size = nL) (hstack : g.stack = As.reverse ++ rest) (hW : 2 * g.monitorRoom + (rest.map fun v => v.category).sum ≤ 8) (hdg : decode cc g.pc = .ok (.invokestatic index, 3)) (hf : cells + mc ≤ R.cells ∧ slots + ms ≤ R.slots) :
    va_Run p l e R s m args below meth c H locs cells slots mc ms g rest (Qc As.toArray) (free) := by
  obtain ⟨⟨hrc, hrs, hfr, hlo, hws, hcw⟩, hcode, hini, hy, hlen, hl, hstt⟩ := cw
  have hK : Back l R p e below s args y 3 8 (PreOf R mc ms Pc) (PostOf Qc mc ms free) := va_backW (hh := hh) (bytes := bytes) (maxL := maxL) (ret := ret) hM hp.1 hrc hrs hfr hlo hws hcw (fun a' U hW => word_at hW (Or.inl (by first | rfl | simp [Cond.onTables, Cond.keeps, Cond.steady])) hini)
  obtain ⟨hx, hb, hml, ho, -⟩ := S
  intro T hT X
  obtain ⟨v, vm₁, ⟨U', l2, c2, s2⟩, hW₁, X', ⟨g', mk, t, L, e1, e2, hq, h1, hL, h2, h3⟩, st⟩ := vx_callSW X hx (hh := hh) (bytes := bytes) (maxL := maxL) (ret := ret) ho hl hstt hini hcode hy hK hg (hsize.trans hml.symm) (argsL := As) (rest := rest) (fun sig h => hn.trans (hlen sig h)) hstack hW (by rw [hb]; exact hdg)
    (fun vm₁ hW₁ => ⟨hf.1, hf.2, hp.2 (T.setVm vm₁) hT hW₁⟩)
  dsimp only [Pt.U, Pt.locs, Pt.cells, Pt.slots] at X' e1 e2 h1 h2 h3 st
  subst h1; subst h2; subst h3
  exact ⟨v, (T.setVm vm₁).calling g' mk As.toArray, t, U', L, hT, X', hL, e1, e2, hq, st⟩
/-- not caught here, past rows that name other classes: it goes on to the caller -/
theorem vx_outP {p : Program} {l : Launch} {e : Env} {R : Room} {s : State} {m : MethodId} {args : Array Value} {below : List Frame} {meth : Method} {c : Code} {H : Heap} {locs : List Loc} {cells slots : Nat} {free : Addr → Prop} {ls : Array Slot} {rest : List Value} {Qc : Array Value → State → Outcome → State → Prop} {XC : String → State → State → Prop}
    {pc : Nat} {own E : String} {ce : Cell} {q : Addr} {mc ms : Nat} (hown : s.vm.findClass own = some m.cls) (hlocks : meth.locks = false)
    (hpass : ∀ z ∈ c.exceptionTable.toList, covers z pc = false ∨ (z.catchType ≠ 0 ∧ ∃ nm : String, (Cond.classLink own z.catchType nm).before args s = true ∧ va_Nc E nm s)) (hcell : H[q]? = some ce) (hv : ce.vm = .none) (hcl : s.vm.findClass E = some ce.cls)
    (hx : ∀ t : State, t.heap = H → s.vm.Alike t.vm → XC E s t) (hf : ∀ z ∈ locs, free z.base) (hc : cells ≤ mc) (hs : slots ≤ ms) :
    vx_W p l e R s m args below meth c H locs cells slots (vx_MQ below Qc XC args s mc ms free) (F0 m pc ls rest) q := by
  intro T hT X
  have hpl : e.platform.magicAccessors = ({} : Platform).magicAccessors := by rw [X.admits.platform]
  obtain ⟨vm', hW', X', st⟩ := X.outThrough hlocks q (g := F0 m pc ls rest) rfl rfl rfl (cell := ce) (by rw [hT]; exact hcell) (by rw [hv]; rfl)
    (by obtain ⟨k9, h9, -⟩ := Vm.findClass_spec hcl; exact ⟨k9, h9⟩) (fun z hz => by
      rcases hpass z hz with h | ⟨hz0, nm, hl1, hn1⟩
      · exact Or.inl h
      · obtain ⟨c6, hc6, hcl6⟩ := Cond.classLink_spec hown hl1 e.platform hpl
        obtain ⟨a8, b8, h1, h2, h3⟩ := hn1
        cases Option.some.inj (h1.symm.trans hcl)
        cases Option.some.inj (h2.symm.trans hc6)
        exact Or.inr ⟨hz0, _, hcl6, h3⟩)
  obtain ⟨g₀, hfr⟩ := X'.frames_eq
  have hcell9 : ((T.setVm vm').setFrames (.throwing q :: below)).heap[q]? = some ce := by
    show T.heap[q]? = some ce
    rw [hT]; exact hcell
  have hend : Ended ((T.setVm vm').setFrames (.throwing q :: below)) below (.threw q) := State.frames_setFrames _ (State.cur_lt_of_frames hfr)
  refine ⟨(T.setVm vm').setFrames (.throwing q :: below), ?_, .threw q, X'.here.running, hend, Or.inr ⟨q, rfl, E, ce, locs, hx _ hT (X'.ends _).1.alike, hcell9, hv, hcl, (X'.ends _).1, (X'.ends _).2.mono hc hs, hf⟩⟩
  rw [X.pushThrowing_eq]
  exact st
/-- a thing of a world lies in the heap -/
theorem vx_lt {D : va_G} {cl : List vw_C} {ws : va_W} {H1 : Heap} (h : va_P D cl ws H1) {k : Nat} {q : Nat × va_E} (hk : ws[k]? = some q) : q.1 < H1.size := (h k q hk).lt
end VXS
/-! ===== END ===== -/
/-! ===== BEGIN methods with a table of their own: called by a name, returning or throwing ===== -/
section VXH
/-! vx_backW, vx_callVX, vx_callSX, vx_callVW, vx_runVW, vx_runVX, vx_runSX, vx_ofWH follow the same proofs as their sisters above (Free/Laws.lean, Shelf42/LK1.lean); vx_outP calls Shelf42/NT130.lean (outThrough). -/
section
variable {l : Launch} {R : Room} {p : Program} {e : Env} {below : List Frame} {s : State} {sargs : Array Value} {y : MethodName} {len W9 : Nat}
theorem vx_backW {ws : List Cond} {rm : Room} {Pc : Array Value → State → Prop} {Qc : Array Value → State → Outcome → State → Prop} {XC : String → State → State → Prop} {mc ms : Nat} {free : Addr → Prop} {bytes : ByteArray} {maxL : Nat} {ret : Option FieldType} {hh : List (Nat × Nat × Nat × Nat)}
    (hM : vx_Met l y ws rm Pc Qc XC mc ms free) (hblind : FrameBlind Pc) (hrc : rm.cells = mc) (hrs : rm.slots = ms)
    (hframes : rm.frames + 1 ≤ R.frames) (hlocals : W9 + (maxL + 11) + rm.locals ≤ R.locals)
    (hws : ∀ w ∈ ws, ∀ a' U, s.WarmedH U.vm → w.before a' U = true) (hcode : Cond.codeWith y bytes maxL ret hh ∈ ws) (hinit : ∀ a' U, s.WarmedH U.vm → (Cond.initialized y.cls).before a' U = true) :
    vx_Back l R p e below s sargs y len W9 (PreOf R mc ms Pc) (PostOf Qc mc ms free) (vx_Post XC mc ms free) := by
  intro m meth c A g ig mk a X hg hsize hdg hW hn hp
  have h1 : (headSpec ws rm).pre.before a A.U = true := atoms_intro fun w hw => hws w hw _ _ X.warmed
  have h2 : (Cond.codeWith y bytes maxL ret hh).before a A.U = true := hws _ hcode _ _ X.warmed
  have h3 : (Cond.initialized y.cls).before a A.U = true := hinit _ _ X.warmed
  have h4 : A.cells + (headSpec ws rm).room.cells ≤ R.cells := by rw [show (headSpec ws rm).room.cells = mc from hrc]; exact hp.1
  have h5 : A.slots + (headSpec ws rm).room.slots ≤ R.slots := by rw [show (headSpec ws rm).room.slots = ms from hrs]; exact hp.2.1
  have hPc : Pc a (A.U.calling g mk a) := hblind _ _ _ _ hp.2.2
  obtain ⟨U, Ls, c0, s0⟩ := A
  dsimp only [Pt.U, Pt.locs, Pt.cells, Pt.slots] at h1 h2 h3 h4 h5 X hn hPc ⊢
  obtain ⟨m9, methY, cY, hn9, hmY, hcY, -, hlY, -⟩ := Cond.codeWith_spec h2
  cases Option.some.inj (hn9.symm.trans hn)
  obtain ⟨kY, hkY, -⟩ := className_of_methodNamed hn
  have hinitY : kY.init = .initialized := Cond.initialized_spec (findClass_of_methodNamed hn) hkY h3
  have h : At U g.method c below := by rw [hg]; exact X.here
  have hlocals9 : W9 + (maxL + 11) + (headSpec ws rm).room.locals ≤ R.locals := hlocals
  have happ : (headSpec ws rm).appliesLoose y e.platform (U.calling g mk a) = true :=
    Spec.appliesLoose_calling (g := g) h hdg hn hkY hinitY
      (X.room_calling (g := g) (R' := (headSpec ws rm).room) hsize hmY hcY hframes (by rw [hlY]; omega) h4 h5) h1
  obtain ⟨mid, hmid⟩ := h.above
  have hfr : (U.setTop g).frames = (.java g :: mid) ++ below := by rw [State.frames_setTop' g h.top, hmid]; rfl
  obtain ⟨o, s₂, hsteps, -, hend, hq⟩ := Steps.callFree hM p X.admits X.cas X.clock (acts := []) hfr happ hPc trivial
  have hq' : vx_Q Qc XC mc ms free a (U.calling g mk a) o s₂ := hq
  rw [State.frames_setTop' g h.top] at hend
  obtain ⟨g₀, hg0⟩ := Option.isSome_iff_exists.mp h.top
  obtain ⟨r, hr⟩ := State.topJava?_eq_some.mp hg0
  have hr' : (({ U with heap := s₂.heap, slotsUsed := s₂.slotsUsed } : State).setVm s₂.vm).frames = .java g₀ :: r := hr
  rcases hq' with ⟨hqc, L, hfe, hL⟩ | ⟨q, rfl, E, ce, L, hx, hce, hcv, hcl, hW₂, hsm, hL⟩
  · obtain ⟨⟨v, rfl⟩, hW₂, e2, q2, q3, q4, q5, q6⟩ := id hfe
    have e3 : s₂ = ({ (U.calling g mk a).setFrames s₂.frames with heap := s₂.heap, slotsUsed := s₂.slotsUsed } : State).setVm s₂.vm := by
      have : s₂ = ({ s₂ with vm := (U.calling g mk a).vm } : State).setVm s₂.vm := rfl
      rw [e2] at this
      exact this
    obtain ⟨c₂, i₂, len₂, hc₂, hd₂, hf₂⟩ := hend
    have hW' : U.WarmedH s₂.vm := hW₂
    have hcc : c₂ = c := by
      have h1 : s₂.code? g.method = U.code? g.method := by
        rw [State.code?_eq, State.code?_eq, hW'.alike.method?]
      exact Option.some.inj (hc₂.symm.trans (h1.trans h.code))
    subst hcc
    have hlen : len₂ = len := by rw [hdg] at hd₂; cases hd₂; rfl
    subst hlen
    have hs₂ : s₂ = (({ U with heap := s₂.heap, slotsUsed := s₂.slotsUsed } : State).setVm s₂.vm).setTop { g with pc := g.pc + len₂, stack := v.toList ++ g.stack } := by
      refine e3.trans ?_
      rw [hf₂, State.calling_eq h.top, State.setFrames_setFrames, State.setTop_of_frames _ hr', hr]
      rfl
    have hsame : U.sameButNew ({ U with heap := s₂.heap, slotsUsed := s₂.slotsUsed } : State) L mc ms := by
      refine ⟨?_, q2, q3, q4, q5, q6⟩
      obtain ⟨t, ht, -⟩ := State.frames_cons hr
      show ({ U with heap := s₂.heap, slotsUsed := s₂.slotsUsed } : State) = { U.setFrames U.frames with heap := s₂.heap, slotsUsed := s₂.slotsUsed }
      rw [State.setFrames_self ht]
    subst hg
    refine Or.inl ⟨v, ⟨(({ U with heap := s₂.heap, slotsUsed := s₂.slotsUsed } : State).setVm s₂.vm), Ls ++ L, c0 + mc, s0 + ms⟩,
      ⟨X.admits, X.cas, X.clock, X.frames, X.room, X.hears, X.method, X.code, (X.here.setHeapUsed s₂.heap s₂.slotsUsed).setVm hW'.alike, X.tail, State.WarmedH.trans X.warmed hW', X.limits, X.bytes, X.same.trans (hsame.setVm s.vm)⟩,
      ⟨g, mk, s₂, L, rfl, rfl, hqc, rfl, hL, rfl, rfl⟩, ?_⟩
    show Steps p.tables e below _ ((({ U with heap := s₂.heap, slotsUsed := s₂.slotsUsed } : State).setVm s₂.vm).setTop { g with pc := g.pc + len₂, stack := v.toList ++ g.stack })
    rw [← hs₂]
    exact hsteps
  · obtain ⟨e2, q2, q3, q4, q5, q6⟩ := id hsm
    have e3 : s₂ = ({ (U.calling g mk a).setFrames s₂.frames with heap := s₂.heap, slotsUsed := s₂.slotsUsed } : State).setVm s₂.vm := by
      have : s₂ = ({ s₂ with vm := (U.calling g mk a).vm } : State).setVm s₂.vm := rfl
      rw [e2] at this
      exact this
    have hf₂ : s₂.frames = .throwing q :: .java g :: U.frames.tail := hend
    have hW' : U.WarmedH s₂.vm := hW₂
    have hs₂ : s₂ = ((({ U with heap := s₂.heap, slotsUsed := s₂.slotsUsed } : State).setVm s₂.vm).setTop g).pushFrame (.throwing q) := by
      refine e3.trans ?_
      rw [hf₂, State.calling_eq h.top, State.setFrames_setFrames, State.pushFrame, State.frames_setTop _ hr', State.setTop_of_frames _ hr', State.setFrames_setFrames, hr]
      rfl
    have hsame : U.sameButNew ({ U with heap := s₂.heap, slotsUsed := s₂.slotsUsed } : State) L mc ms := by
      refine ⟨?_, q2, q3, q4, q5, q6⟩
      obtain ⟨t, ht, -⟩ := State.frames_cons hr
      show ({ U with heap := s₂.heap, slotsUsed := s₂.slotsUsed } : State) = { U.setFrames U.frames with heap := s₂.heap, slotsUsed := s₂.slotsUsed }
      rw [State.setFrames_self ht]
    subst hg
    refine Or.inr ⟨q, ⟨(({ U with heap := s₂.heap, slotsUsed := s₂.slotsUsed } : State).setVm s₂.vm), Ls ++ L, c0 + mc, s0 + ms⟩,
      ⟨X.admits, X.cas, X.clock, X.frames, X.room, X.hears, X.method, X.code, (X.here.setHeapUsed s₂.heap s₂.slotsUsed).setVm hW'.alike, X.tail, State.WarmedH.trans X.warmed hW', X.limits, X.bytes, X.same.trans (hsame.setVm s.vm)⟩,
      ⟨g, mk, s₂, L, E, ce, rfl, rfl, hx, hce, hcv, hcl, rfl, hL, rfl, rfl⟩, ?_⟩
    show Steps p.tables e below _ (((({ U with heap := s₂.heap, slotsUsed := s₂.slotsUsed } : State).setVm s₂.vm).setTop g).pushFrame (.throwing q))
    rw [← hs₂]
    exact hsteps
end
variable {p : Program} {l : Launch} {e : Env} {R : Room} {s : State} {m : MethodId} {args : Array Value} {below : List Frame} {meth : Method} {c : Code} {T : State} {H : Heap} {locs : List Loc} {cells slots : Nat}
theorem vx_callVX (X : Stand p l e R s m args below meth c T locs cells slots) (hexec : p.tables.exec = Jvm.exec) {own C : String} {index : Nat} {y : MethodName} {bytes : ByteArray} {maxL : Nat} {ret : Option FieldType} {hh : List (Nat × Nat × Nat × Nat)}
    (hown : s.vm.findClass own = some m.cls) (hlink : (Cond.methodLink own index y).before args s = true) (hinst : (Cond.instanceMethod y).before args s = true) (hsel : (Cond.selects C y y).before args s = true)
    (hcode : (Cond.codeWith y bytes maxL ret hh).before args s = true) (hy : y.cls ≠ "java/lang/invoke/MethodHandle" ∧ y.cls ≠ "java/lang/invoke/VarHandle")
    {W9 : Nat} {Pre : Pt → Array Value → Prop} {Post : Pt → Array Value → Option Value → Pt → Prop} {PostX : Pt → Array Value → Addr → Pt → Prop} (hK : vx_Back l R p e below s args y 3 W9 Pre Post PostX)
    {b : Addr} {cellB : Cell} (hcell : T.heap[b]? = some cellB) (hobj : cellB.vm.isStatics = false) (hcls : s.vm.findClass C = some cellB.cls)
    {g : JFrame} (hg : g.method = m) (hsize : g.locals.size = c.maxLocals) {argsL rest : List Value} (hlen : ∀ sig, parseMethodDescriptor y.desc = some sig → argsL.length = sig.parameters.length)
    (hstack : g.stack = argsL.reverse ++ .ref b :: rest) (hW : 2 * g.monitorRoom + (rest.map fun v => v.category).sum ≤ W9) (hdg : decode c.code g.pc = .ok (.invokevirtual index, 3))
    (hpre : ∀ vm₁, s.WarmedH vm₁ → Pre ⟨T.setVm vm₁, locs, cells, slots⟩ (Value.ref b :: argsL).toArray) :
    (∃ (v : Option Value) (vm₁ : Vm) (B : Pt), s.WarmedH vm₁ ∧ Stand p l e R s m args below meth c B.U B.locs B.cells B.slots ∧ Post ⟨T.setVm vm₁, locs, cells, slots⟩ (Value.ref b :: argsL).toArray v B ∧
      ∀ target, Steps p.tables e below (B.U.setTop { g with pc := g.pc + 3, stack := v.toList ++ rest }) target → Steps p.tables e below (T.setTop g) target) ∨
    (∃ (q : Addr) (vm₁ : Vm) (B : Pt), s.WarmedH vm₁ ∧ Stand p l e R s m args below meth c B.U B.locs B.cells B.slots ∧ PostX ⟨T.setVm vm₁, locs, cells, slots⟩ (Value.ref b :: argsL).toArray q B ∧
      Steps p.tables e below (T.setTop g) ((B.U.setTop { g with stack := rest }).pushFrame (.throwing q))) := by
  obtain ⟨mk, methM, hnamed, hmethM, hstM, habM⟩ := Cond.instanceMethod_spec hinst
  obtain ⟨m8, methM', cM, hn8, hmethM', -, -, -, -, -, -, hsigM⟩ := Cond.codeWith_spec hcode
  cases Option.some.inj (hn8.symm.trans hnamed)
  cases hmethM.symm.trans hmethM'
  obtain ⟨c2, r2, m2, q1, q2, q3, q4, kP, hkP, hkPi⟩ := Cond.selects_spec hsel
  cases hcls.symm.trans q1
  cases (State.methodFound?_of_named hnamed hy).symm.trans q2
  cases hnamed.symm.trans q3
  have hselP : selectMethod e.platform s.vm cellB.cls mk = .method mk := by rw [Launch.admits_selectMethod X.admits]; exact q4
  obtain ⟨vm₁, X₁, hstep₁⟩ := X.invokevirtual hexec hown hlink hnamed hmethM hstM hkP hkPi hy (a := b) (cell := cellB) hcell
    (fun z h => by rw [h] at hobj; cases hobj) hselP hmethM habM hkP hkPi (g := g) hg (argsL := argsL) (rest := rest) (hlen _ hsigM) hstack hdg
  rcases hK m meth c ⟨T.setVm vm₁, locs, cells, slots⟩ { g with stack := rest } (.invokevirtual index) mk (Value.ref b :: argsL).toArray X₁ hg hsize hdg hW (X₁.named hnamed) (hpre vm₁ X₁.warmed) with ⟨v, B, X', hpost, hsteps⟩ | ⟨q, B, X', hpost, hsteps⟩
  · exact Or.inl ⟨v, vm₁, B, X₁.warmed, X', hpost, fun target h => hstep₁ _ fun acts => by rw [doInvoke_state]; exact hsteps.trans h⟩
  · exact Or.inr ⟨q, vm₁, B, X₁.warmed, X', hpost, hstep₁ _ fun acts => by rw [doInvoke_state]; exact hsteps⟩
theorem vx_callSX (X : Stand p l e R s m args below meth c T locs cells slots) (hexec : p.tables.exec = Jvm.exec) {own : String} {index : Nat} {y : MethodName} {bytes : ByteArray} {maxL : Nat} {ret : Option FieldType} {hh : List (Nat × Nat × Nat × Nat)}
    (hown : s.vm.findClass own = some m.cls) (hlink : (Cond.methodLink own index y).before args s = true) (hstat : (Cond.static y).before args s = true) (hinit : (Cond.initialized y.cls).before args s = true)
    (hcode : (Cond.codeWith y bytes maxL ret hh).before args s = true) (hy : y.cls ≠ "java/lang/invoke/MethodHandle" ∧ y.cls ≠ "java/lang/invoke/VarHandle")
    {W9 : Nat} {Pre : Pt → Array Value → Prop} {Post : Pt → Array Value → Option Value → Pt → Prop} {PostX : Pt → Array Value → Addr → Pt → Prop} (hK : vx_Back l R p e below s args y 3 W9 Pre Post PostX)
    {g : JFrame} (hg : g.method = m) (hsize : g.locals.size = c.maxLocals) {argsL rest : List Value} (hlen : ∀ sig, parseMethodDescriptor y.desc = some sig → argsL.length = sig.parameters.length)
    (hstack : g.stack = argsL.reverse ++ rest) (hW : 2 * g.monitorRoom + (rest.map fun v => v.category).sum ≤ W9) (hdg : decode c.code g.pc = .ok (.invokestatic index, 3))
    (hpre : ∀ vm₁, s.WarmedH vm₁ → Pre ⟨T.setVm vm₁, locs, cells, slots⟩ argsL.toArray) :
    (∃ (v : Option Value) (vm₁ : Vm) (B : Pt), s.WarmedH vm₁ ∧ Stand p l e R s m args below meth c B.U B.locs B.cells B.slots ∧ Post ⟨T.setVm vm₁, locs, cells, slots⟩ argsL.toArray v B ∧
      ∀ target, Steps p.tables e below (B.U.setTop { g with pc := g.pc + 3, stack := v.toList ++ rest }) target → Steps p.tables e below (T.setTop g) target) ∨
    (∃ (q : Addr) (vm₁ : Vm) (B : Pt), s.WarmedH vm₁ ∧ Stand p l e R s m args below meth c B.U B.locs B.cells B.slots ∧ PostX ⟨T.setVm vm₁, locs, cells, slots⟩ argsL.toArray q B ∧
      Steps p.tables e below (T.setTop g) ((B.U.setTop { g with stack := rest }).pushFrame (.throwing q))) := by
  obtain ⟨mk, methM, cM, hnamed, hmethM, -, -, -, -, -, -, hsigM⟩ := Cond.codeWith_spec hcode
  have hstatic : methM.isStatic = true := Cond.static_spec hnamed hmethM hstat
  obtain ⟨kP, hkP, -⟩ := className_of_methodNamed hnamed
  have hinitP : kP.init = .initialized := Cond.initialized_spec (findClass_of_methodNamed hnamed) hkP hinit
  obtain ⟨vm₁, X₁, hstep₁⟩ := X.invokestatic hexec hown hlink hnamed hmethM hstatic hkP hinitP hy (g := g) hg (argsL := argsL) (rest := rest) (hlen _ hsigM) hstack hdg
  rcases hK m meth c ⟨T.setVm vm₁, locs, cells, slots⟩ { g with stack := rest } (.invokestatic index) mk argsL.toArray X₁ hg hsize hdg hW (X₁.named hnamed) (hpre vm₁ X₁.warmed) with ⟨v, B, X', hpost, hsteps⟩ | ⟨q, B, X', hpost, hsteps⟩
  · exact Or.inl ⟨v, vm₁, B, X₁.warmed, X', hpost, fun target h => hstep₁ _ fun acts => by rw [doInvoke_state]; exact hsteps.trans h⟩
  · exact Or.inr ⟨q, vm₁, B, X₁.warmed, X', hpost, hstep₁ _ fun acts => by rw [doInvoke_state]; exact hsteps⟩
theorem vx_callVW (X : Stand p l e R s m args below meth c T locs cells slots) (hexec : p.tables.exec = Jvm.exec) {own C : String} {index : Nat} {y : MethodName} {bytes : ByteArray} {maxL : Nat} {ret : Option FieldType} {hh : List (Nat × Nat × Nat × Nat)}
    (hown : s.vm.findClass own = some m.cls) (hlink : (Cond.methodLink own index y).before args s = true) (hinst : (Cond.instanceMethod y).before args s = true) (hsel : (Cond.selects C y y).before args s = true)
    (hcode : (Cond.codeWith y bytes maxL ret hh).before args s = true) (hy : y.cls ≠ "java/lang/invoke/MethodHandle" ∧ y.cls ≠ "java/lang/invoke/VarHandle")
    {W9 : Nat} {Pre : Pt → Array Value → Prop} {Post : Pt → Array Value → Option Value → Pt → Prop} (hK : Back l R p e below s args y 3 W9 Pre Post)
    {b : Addr} {cellB : Cell} (hcell : T.heap[b]? = some cellB) (hobj : cellB.vm.isStatics = false) (hcls : s.vm.findClass C = some cellB.cls)
    {g : JFrame} (hg : g.method = m) (hsize : g.locals.size = c.maxLocals) {argsL rest : List Value} (hlen : ∀ sig, parseMethodDescriptor y.desc = some sig → argsL.length = sig.parameters.length)
    (hstack : g.stack = argsL.reverse ++ .ref b :: rest) (hW : 2 * g.monitorRoom + (rest.map fun v => v.category).sum ≤ W9) (hdg : decode c.code g.pc = .ok (.invokevirtual index, 3))
    (hpre : ∀ vm₁, s.WarmedH vm₁ → Pre ⟨T.setVm vm₁, locs, cells, slots⟩ (Value.ref b :: argsL).toArray) :
    ∃ (v : Option Value) (vm₁ : Vm) (B : Pt), s.WarmedH vm₁ ∧ Stand p l e R s m args below meth c B.U B.locs B.cells B.slots ∧ Post ⟨T.setVm vm₁, locs, cells, slots⟩ (Value.ref b :: argsL).toArray v B ∧
      ∀ target, Steps p.tables e below (B.U.setTop { g with pc := g.pc + 3, stack := v.toList ++ rest }) target → Steps p.tables e below (T.setTop g) target := by
  obtain ⟨mk, methM, hnamed, hmethM, hstM, habM⟩ := Cond.instanceMethod_spec hinst
  obtain ⟨m8, methM', cM, hn8, hmethM', -, -, -, -, -, -, hsigM⟩ := Cond.codeWith_spec hcode
  cases Option.some.inj (hn8.symm.trans hnamed)
  cases hmethM.symm.trans hmethM'
  obtain ⟨c2, r2, m2, q1, q2, q3, q4, kP, hkP, hkPi⟩ := Cond.selects_spec hsel
  cases hcls.symm.trans q1
  cases (State.methodFound?_of_named hnamed hy).symm.trans q2
  cases hnamed.symm.trans q3
  have hselP : selectMethod e.platform s.vm cellB.cls mk = .method mk := by rw [Launch.admits_selectMethod X.admits]; exact q4
  obtain ⟨vm₁, X₁, hstep₁⟩ := X.invokevirtual hexec hown hlink hnamed hmethM hstM hkP hkPi hy (a := b) (cell := cellB) hcell
    (fun z h => by rw [h] at hobj; cases hobj) hselP hmethM habM hkP hkPi (g := g) hg (argsL := argsL) (rest := rest) (hlen _ hsigM) hstack hdg
  obtain ⟨v, B, X', hpost, hsteps⟩ := hK m meth c ⟨T.setVm vm₁, locs, cells, slots⟩ { g with stack := rest } (.invokevirtual index) mk (Value.ref b :: argsL).toArray X₁ hg hsize hdg hW (X₁.named hnamed) (hpre vm₁ X₁.warmed)
  exact ⟨v, vm₁, B, X₁.warmed, X', hpost, fun target h => hstep₁ _ fun acts => by rw [doInvoke_state]; exact hsteps.trans h⟩
abbrev vx_CVW (R : Room) (s : State) (args : Array Value) (own C : String) (index : Nat) (y : MethodName) (bytes : ByteArray) (maxL : Nat) (ret : Option FieldType) (hh : List (Nat × Nat × Nat × Nat)) (ws : List Cond) (rm : Room) (mc ms n : Nat) : Prop :=
  (rm.cells = mc ∧ rm.slots = ms ∧ rm.frames + 1 ≤ R.frames ∧ 8 + (maxL + 11) + rm.locals ≤ R.locals ∧ (∀ w ∈ ws, ∀ (a' : Array Value) (U : State), s.WarmedH U.vm → w.before a' U = true) ∧ Cond.codeWith y bytes maxL ret hh ∈ ws) ∧
  (Cond.codeWith y bytes maxL ret hh).before args s = true ∧ (Cond.initialized y.cls).before args s = true ∧ (y.cls ≠ "java/lang/invoke/MethodHandle" ∧ y.cls ≠ "java/lang/invoke/VarHandle") ∧
  (∀ sig, parseMethodDescriptor y.desc = some sig → n = sig.parameters.length) ∧ (Cond.methodLink own index y).before args s = true ∧ (Cond.instanceMethod y).before args s = true ∧ (Cond.selects C y y).before args s = true
theorem vx_cwVW {own C : String} {index maxL mc ms : Nat} {y : MethodName} {bytes : ByteArray} {ret : Option FieldType} {hh : List (Nat × Nat × Nat × Nat)} {Ts ws ws' : List Cond} {rm : Room} (n : Nat) (ht : ∀ w ∈ Ts, w.before args s = true) (hT : GoodIn Ts (wsV own index C y ws)) (hw : ws = Cond.codeWith y bytes maxL ret hh :: ws') (hrc : rm.cells = mc) (hrs : rm.slots = ms)
    (hd : y.cls = C ∧ y.cls ≠ "java/lang/invoke/MethodHandle" ∧ y.cls ≠ "java/lang/invoke/VarHandle" ∧ (parseMethodDescriptor y.desc).map (fun d => d.parameters.length) = some n) (hR : rm.frames + 1 ≤ R.frames ∧ 8 + (maxL + 11) + rm.locals ≤ R.locals) :
    vx_CVW R s args own C index y bytes maxL ret hh ws rm mc ms n := by
  obtain ⟨hC, hd⟩ := hd
  subst hC
  have ok : ∀ w ∈ wsV own index y.cls y ws, w.before args s = true := fun w h => ht w (hT w h).1
  have hG : GoodIn Ts ws := fun w h => hT w (by unfold wsV; exact List.mem_append_right _ h)
  have hc : Cond.codeWith y bytes maxL ret hh ∈ ws := by rw [hw]; exact List.mem_cons_self
  refine ⟨⟨hrc, hrs, hR.1, hR.2, pay_in ht hG, hc⟩, ht _ (hG _ hc).1, ok _ (by simp [wsV]), ⟨hd.1, hd.2.1⟩, fun sig h => ?_, ok _ (by simp [wsV]), ok _ (by simp [wsV]), ok _ (by simp [wsV])⟩
  have h2 := hd.2.2
  rw [h] at h2
  exact (Option.some.inj h2).symm
theorem vx_runVW {y : MethodName} {bytes cc : ByteArray} {maxL nL mc ms n index : Nat} {ret : Option FieldType} {hh : List (Nat × Nat × Nat × Nat)} {ws : List Cond} {rm : Room} {Pc : Array Value → State → Prop} {Qc : Array Value → State → Outcome → State → Prop} {free : Addr → Prop} {Ts : List Cond} {own C : String} {b : Addr} {As rest : List Value} {g : JFrame}
    (S : CallFix p m c cc nL s args Ts own) (hM : Met l y ws rm Pc Qc mc ms free) (cw : vx_CVW R s args own C index y bytes maxL ret hh ws rm mc ms n) (hp : PreV s H C b Pc As)
    (hg : g.method = m) (hn : As.length = n) (hsize : g.locals.size = nL) (hstack : g.stack = As.reverse ++ .ref b :: rest) (hW : 2 * g.monitorRoom + (rest.map fun v => v.category).sum ≤ 8) (hdg : decode cc g.pc = .ok (.invokevirtual index, 3)) (hf : cells + mc ≤ R.cells ∧ slots + ms ≤ R.slots) :
    va_Run p l e R s m args below meth c H locs cells slots mc ms g rest (Qc (Value.ref b :: As).toArray) free := by
  obtain ⟨⟨hrc, hrs, hfr, hlo, hws, hcw⟩, hcode, hini, hy, hlen, hl, hin, hse⟩ := cw
  have hK : Back l R p e below s args y 3 8 (PreOf R mc ms Pc) (PostOf Qc mc ms free) := va_backW (hh := hh) (bytes := bytes) (maxL := maxL) (ret := ret) hM hp.1 hrc hrs hfr hlo hws hcw (fun a' U hW => word_at hW (Or.inl (by first | rfl | simp [Cond.onTables, Cond.keeps, Cond.steady])) hini)
  obtain ⟨hx, hb, hml, ho, -⟩ := S
  obtain ⟨-, ⟨cellB, hcB, hoB, hclB⟩, hPc⟩ := hp
  intro T hT X
  obtain ⟨v, vm₁, ⟨U', l2, c2, s2⟩, hW₁, X', ⟨g', mk, t, L, e1, e2, hq, h1, hL, h2, h3⟩, st⟩ := vx_callVW X hx (C := C) (hh := hh) (bytes := bytes) (maxL := maxL) (ret := ret) ho hl hin hse hcode hy hK (by rw [hT]; exact hcB) hoB hclB hg (hsize.trans hml.symm) (argsL := As) (rest := rest) (fun sig h => hn.trans (hlen sig h)) hstack hW (by rw [hb]; exact hdg)
    (fun vm₁ hW₁ => ⟨hf.1, hf.2, hPc (T.setVm vm₁) hT hW₁⟩)
  dsimp only [Pt.U, Pt.locs, Pt.cells, Pt.slots] at X' e1 e2 h1 h2 h3 st
  subst h1; subst h2; subst h3
  exact ⟨v, (T.setVm vm₁).calling g' mk (Value.ref b :: As).toArray, t, U', L, hT, X', hL, e1, e2, hq, st⟩
section
variable {y : MethodName} {bytes cc : ByteArray} {maxL nL mc ms n index : Nat} {ret : Option FieldType} {ws : List Cond} {rm : Room} {Pc : Array Value → State → Prop} {Qc : Array Value → State → Outcome → State → Prop} {XC : String → State → State → Prop} {free : Addr → Prop} {Ts : List Cond} {own C : String} {b : Addr} {As rest : List Value} {g : JFrame}
theorem vx_runVX {hh : List (Nat × Nat × Nat × Nat)} (S : CallFix p m c cc nL s args Ts own) (hM : vx_Met l y ws rm Pc Qc XC mc ms free) (cw : vx_CVW R s args own C index y bytes maxL ret hh ws rm mc ms n) (hp : PreV s H C b Pc As)
    (hg : g.method = m) (hn : As.length = n) (hsize : g.locals.size = nL) (hstack : g.stack = As.reverse ++ .ref b :: rest) (hW : 2 * g.monitorRoom + (rest.map fun v => v.category).sum ≤ 8) (hdg : decode cc g.pc = .ok (.invokevirtual index, 3)) (hf : cells + mc ≤ R.cells ∧ slots + ms ≤ R.slots) :
    vx_Run p l e R s m args below meth c H locs cells slots mc ms g rest (Qc (Value.ref b :: As).toArray) XC free := by
  obtain ⟨⟨hrc, hrs, hfr, hlo, hws, hcw⟩, hcode, hini, hy, hlen, hl, hin, hse⟩ := cw
  have hK : vx_Back l R p e below s args y 3 8 (PreOf R mc ms Pc) (PostOf Qc mc ms free) (vx_Post XC mc ms free) := vx_backW (hh := hh) (bytes := bytes) (maxL := maxL) (ret := ret) hM hp.1 hrc hrs hfr hlo hws hcw (fun a' U hW => word_at hW (Or.inl (by first | rfl | simp [Cond.onTables, Cond.keeps, Cond.steady])) hini)
  obtain ⟨hx, hb, hml, ho, -⟩ := S
  obtain ⟨-, ⟨cellB, hcB, hoB, hclB⟩, hPc⟩ := hp
  intro T hT X
  rcases vx_callVX X hx (C := C) (hh := hh) (bytes := bytes) (maxL := maxL) (ret := ret) ho hl hin hse hcode hy hK (by rw [hT]; exact hcB) hoB hclB hg (hsize.trans hml.symm) (argsL := As) (rest := rest) (fun sig h => hn.trans (hlen sig h)) hstack hW (by rw [hb]; exact hdg)
    (fun vm₁ hW₁ => ⟨hf.1, hf.2, hPc (T.setVm vm₁) hT hW₁⟩) with ⟨v, vm₁, ⟨U', l2, c2, s2⟩, hW₁, X', ⟨g', mk, t, L, e1, e2, hq, h1, hL, h2, h3⟩, st⟩ | ⟨q, vm₁, ⟨U', l2, c2, s2⟩, hW₁, X', ⟨g', mk, t, L, E, ce, e1, e2, hq, hce, hcv, hcl, h1, hL, h2, h3⟩, st⟩
  · dsimp only [Pt.U, Pt.locs, Pt.cells, Pt.slots] at X' e1 e2 h1 h2 h3 st
    subst h1; subst h2; subst h3
    exact Or.inl ⟨v, (T.setVm vm₁).calling g' mk (Value.ref b :: As).toArray, t, U', L, hT, X', hL, e1, e2, hq, st⟩
  · dsimp only [Pt.U, Pt.locs, Pt.cells, Pt.slots] at X' e1 e2 h1 h2 h3 st hcl
    subst h1; subst h2; subst h3
    exact Or.inr ⟨q, (T.setVm vm₁).calling g' mk (Value.ref b :: As).toArray, t, U', L, E, ce, hT, X', hL, e1, e2, hq, hce, hcv, vx_cls hW₁ hcl, st⟩
theorem vx_runSX {hh : List (Nat × Nat × Nat × Nat)} (S : CallFix p m c cc nL s args Ts own) (hM : vx_Met l y ws rm Pc Qc XC mc ms free) (cw : vx_CSW R s args own index y bytes maxL ret hh ws rm mc ms n) (hp : PreS s H Pc As)
    (hg : g.method = m) (hn : As.length = n) (hsize : g.locals.size = nL) (hstack : g.stack = As.reverse ++ rest) (hW : 2 * g.monitorRoom + (rest.map fun v => v.category).sum ≤ 8) (hdg : decode cc g.pc = .ok (.invokestatic index, 3)) (hf : cells + mc ≤ R.cells ∧ slots + ms ≤ R.slots) :
    vx_Run p l e R s m args below meth c H locs cells slots mc ms g rest (Qc As.toArray) XC free := by
  obtain ⟨⟨hrc, hrs, hfr, hlo, hws, hcw⟩, hcode, hini, hy, hlen, hl, hstt⟩ := cw
  have hK : vx_Back l R p e below s args y 3 8 (PreOf R mc ms Pc) (PostOf Qc mc ms free) (vx_Post XC mc ms free) := vx_backW (hh := hh) (bytes := bytes) (maxL := maxL) (ret := ret) hM hp.1 hrc hrs hfr hlo hws hcw (fun a' U hW => word_at hW (Or.inl (by first | rfl | simp [Cond.onTables, Cond.keeps, Cond.steady])) hini)
  obtain ⟨hx, hb, hml, ho, -⟩ := S
  intro T hT X
  rcases vx_callSX X hx (hh := hh) (bytes := bytes) (maxL := maxL) (ret := ret) ho hl hstt hini hcode hy hK hg (hsize.trans hml.symm) (argsL := As) (rest := rest) (fun sig h => hn.trans (hlen sig h)) hstack hW (by rw [hb]; exact hdg)
    (fun vm₁ hW₁ => ⟨hf.1, hf.2, hp.2 (T.setVm vm₁) hT hW₁⟩) with ⟨v, vm₁, ⟨U', l2, c2, s2⟩, hW₁, X', ⟨g', mk, t, L, e1, e2, hq, h1, hL, h2, h3⟩, st⟩ | ⟨q, vm₁, ⟨U', l2, c2, s2⟩, hW₁, X', ⟨g', mk, t, L, E, ce, e1, e2, hq, hce, hcv, hcl, h1, hL, h2, h3⟩, st⟩
  · dsimp only [Pt.U, Pt.locs, Pt.cells, Pt.slots] at X' e1 e2 h1 h2 h3 st
    subst h1; subst h2; subst h3
    exact Or.inl ⟨v, (T.setVm vm₁).calling g' mk As.toArray, t, U', L, hT, X', hL, e1, e2, hq, st⟩
  · dsimp only [Pt.U, Pt.locs, Pt.cells, Pt.slots] at X' e1 e2 h1 h2 h3 st hcl
    subst h1; subst h2; subst h3
    exact Or.inr ⟨q, (T.setVm vm₁).calling g' mk As.toArray, t, U', L, E, ce, hT, X', hL, e1, e2, hq, hce, hcv, vx_cls hW₁ hcl, st⟩
end
end VXH
theorem vx_ofWH {l : Launch} {y : MethodName} {ws ws' : List Cond} {rm : Room} {Pc : Array Value → State → Prop} {Qc : Array Value → State → Outcome → State → Prop} {XC : String → State → State → Prop} {mc ms : Nat} {free : Addr → Prop} {cc : ByteArray} {maxL : Nat} {ret : Option FieldType} {hh : List (Nat × Nat × Nat × Nat)}
    (hy : plainName y.cls = true) (hw : ws = Cond.codeWith y cc maxL ret hh :: ws')
    (body : ∀ p e s m args below meth c s₁, BodyLoose p l y (headSpec ws rm) cc maxL ret e s m args below meth c s₁ → c.maxLocals = maxL → Pc args s →
      W p l e (headSpec ws rm).room s m args below meth c s.heap [] 0 0 (vx_MQ below Qc XC args s mc ms free) (entryFrame m args maxL)) : vx_Met l y ws rm Pc Qc XC mc ms free := by
  refine MetFree.of_bodyS (code := cc) (maxLocals := maxL) (ret := ret) hy ?_ ?_
  · intro args s m h hn
    obtain ⟨m9, meth, c, hn9, h1, h2, h3, h4, -, h5, h6, -⟩ := Cond.codeWith_spec (atoms_spec (ws := ws) h _ (by rw [hw]; exact List.mem_cons_self))
    cases hn.symm.trans hn9
    exact ⟨meth, c, h1, h2, h3, h4, h5, h6⟩
  · intro p e s m args below meth c s₁ B hml hP _
    have hh0 : s₁.heap = s.heap := by rw [B.state]; rfl
    obtain ⟨t, a1, o, b1, b2, b3⟩ := body p e s m args below meth c s₁ B hml hP s₁ hh0 (Stand.of_body B)
    exact ⟨t, o, a1, b1, b2, b3⟩
/-! ===== END ===== -/
end
section
def RX0 : String := "Treequery$Bits"
def TX0 : u_T := fun k => match k with
  | _ => ("", "", "", false)
def tyX0 : Nat → FieldType := fun k => match k with
  | _ => .int
theorem nmX0 : ∀ a, a < 0 → ∀ b, b < 0 → a ≠ b → (TX0 a).2.1 ≠ (TX0 b).2.1 := by decide +kernel
theorem tyX0_ok : ∀ k, k < 0 → parseFieldDescriptor (TX0 k).2.2.1 = some (tyX0 k) := by decide +kernel
def RX1 : String := "Treequery$Edits"
def TX1 : u_T := fun k => match k with
  | 0 => ("Treequery$Edits", "nodes", "LTreequery$Row;", true)
  | 1 => ("Treequery$Edits", "lefts", "LTreequery$Row;", true)
  | 2 => ("Treequery$Edits", "otherNodes", "LTreequery$Row;", true)
  | 3 => ("Treequery$Edits", "otherLefts", "LTreequery$Row;", true)
  | 4 => ("Treequery$Edits", "trees", "LTreequery$Row;", true)
  | 5 => ("Treequery$Edits", "forests", "LTreequery$Row;", true)
  | _ => ("Treequery$Edits", "answers", "LTreequery$Row;", true)
def tyX1 : Nat → FieldType := fun k => match k with
  | 0 => .object "Treequery$Row"
  | 1 => .object "Treequery$Row"
  | 2 => .object "Treequery$Row"
  | 3 => .object "Treequery$Row"
  | 4 => .object "Treequery$Row"
  | 5 => .object "Treequery$Row"
  | _ => .object "Treequery$Row"
theorem nmX1 : ∀ a, a < 7 → ∀ b, b < 7 → a ≠ b → (TX1 a).2.1 ≠ (TX1 b).2.1 := by decide +kernel
theorem tyX1_ok : ∀ k, k < 7 → parseFieldDescriptor (TX1 k).2.2.1 = some (tyX1 k) := by decide +kernel
def RX2 : String := "Treequery$Finder"
def TX2 : u_T := fun k => match k with
  | 0 => ("Treequery$Finder", "tree", "LTreequery$Tree;", true)
  | 1 => ("Treequery$Finder", "layout", "LTreequery$Layout;", true)
  | 2 => ("Treequery$Finder", "paths", "LTreequery$Paths;", true)
  | 3 => ("Treequery$Finder", "tables", "LTreequery$Sets;", true)
  | 4 => ("Treequery$Finder", "leaps", "LTreequery$Sets;", true)
  | 5 => ("Treequery$Finder", "values", "LTreequery$Row;", true)
  | 6 => ("Treequery$Finder", "seen", "J", false)
  | _ => ("Treequery$Finder", "ready", "I", false)
def tyX2 : Nat → FieldType := fun k => match k with
  | 0 => .object "Treequery$Tree"
  | 1 => .object "Treequery$Layout"
  | 2 => .object "Treequery$Paths"
  | 3 => .object "Treequery$Sets"
  | 4 => .object "Treequery$Sets"
  | 5 => .object "Treequery$Row"
  | 6 => .long
  | _ => .int
theorem nmX2 : ∀ a, a < 8 → ∀ b, b < 8 → a ≠ b → (TX2 a).2.1 ≠ (TX2 b).2.1 := by decide +kernel
theorem tyX2_ok : ∀ k, k < 8 → parseFieldDescriptor (TX2 k).2.2.1 = some (tyX2 k) := by decide +kernel
def RX3 : String := "Treequery$Layout"
def TX3 : u_T := fun k => match k with
  | 0 => ("Treequery$Layout", "order", "LTreequery$Row;", true)
  | 1 => ("Treequery$Layout", "spots", "LTreequery$Row;", true)
  | 2 => ("Treequery$Layout", "ups", "LTreequery$Row;", true)
  | 3 => ("Treequery$Layout", "ends", "LTreequery$Row;", true)
  | 4 => ("Treequery$Layout", "spaces", "LTreequery$Row;", true)
  | 5 => ("Treequery$Layout", "inner", "LTreequery$Sets;", true)
  | 6 => ("Treequery$Layout", "beside", "LTreequery$Sets;", true)
  | 7 => ("Treequery$Layout", "above", "LTreequery$Sets;", true)
  | 8 => ("Treequery$Layout", "below", "LTreequery$Sets;", true)
  | 9 => ("Treequery$Layout", "tests", "LTreequery$Sets;", true)
  | 10 => ("Treequery$Layout", "elements", "J", false)
  | 11 => ("Treequery$Layout", "attributes", "J", false)
  | _ => ("Treequery$Layout", "count", "I", false)
def tyX3 : Nat → FieldType := fun k => match k with
  | 0 => .object "Treequery$Row"
  | 1 => .object "Treequery$Row"
  | 2 => .object "Treequery$Row"
  | 3 => .object "Treequery$Row"
  | 4 => .object "Treequery$Row"
  | 5 => .object "Treequery$Sets"
  | 6 => .object "Treequery$Sets"
  | 7 => .object "Treequery$Sets"
  | 8 => .object "Treequery$Sets"
  | 9 => .object "Treequery$Sets"
  | 10 => .long
  | 11 => .long
  | _ => .int
theorem nmX3 : ∀ a, a < 13 → ∀ b, b < 13 → a ≠ b → (TX3 a).2.1 ≠ (TX3 b).2.1 := by decide +kernel
theorem tyX3_ok : ∀ k, k < 13 → parseFieldDescriptor (TX3 k).2.2.1 = some (tyX3 k) := by decide +kernel
def RX4 : String := "Treequery$Paths"
def TX4 : u_T := fun k => match k with
  | 0 => ("Treequery$Paths", "stepCounts", "LTreequery$Row;", true)
  | 1 => ("Treequery$Paths", "axes", "LTreequery$Row;", true)
  | 2 => ("Treequery$Paths", "tests", "LTreequery$Row;", true)
  | 3 => ("Treequery$Paths", "repeats", "LTreequery$Row;", true)
  | 4 => ("Treequery$Paths", "conditionCounts", "LTreequery$Row;", true)
  | 5 => ("Treequery$Paths", "whats", "LTreequery$Row;", true)
  | 6 => ("Treequery$Paths", "others", "LTreequery$Row;", true)
  | 7 => ("Treequery$Paths", "comparisons", "LTreequery$Row;", true)
  | 8 => ("Treequery$Paths", "numbers", "LTreequery$Row;", true)
  | _ => ("Treequery$Paths", "count", "I", false)
def tyX4 : Nat → FieldType := fun k => match k with
  | 0 => .object "Treequery$Row"
  | 1 => .object "Treequery$Row"
  | 2 => .object "Treequery$Row"
  | 3 => .object "Treequery$Row"
  | 4 => .object "Treequery$Row"
  | 5 => .object "Treequery$Row"
  | 6 => .object "Treequery$Row"
  | 7 => .object "Treequery$Row"
  | 8 => .object "Treequery$Row"
  | _ => .int
theorem nmX4 : ∀ a, a < 10 → ∀ b, b < 10 → a ≠ b → (TX4 a).2.1 ≠ (TX4 b).2.1 := by decide +kernel
theorem tyX4_ok : ∀ k, k < 10 → parseFieldDescriptor (TX4 k).2.2.1 = some (tyX4 k) := by decide +kernel
def RX5 : String := "Treequery$Row"
def TX5 : u_T := fun k => match k with
  | _ => ("Treequery$Row", "cells", "[I", true)
def tyX5 : Nat → FieldType := fun k => match k with
  | _ => .array .int
theorem nmX5 : ∀ a, a < 1 → ∀ b, b < 1 → a ≠ b → (TX5 a).2.1 ≠ (TX5 b).2.1 := by decide +kernel
theorem tyX5_ok : ∀ k, k < 1 → parseFieldDescriptor (TX5 k).2.2.1 = some (tyX5 k) := by decide +kernel
def RX6 : String := "Treequery$Schema"
def TX6 : u_T := fun k => match k with
  | 0 => ("Treequery$Schema", "names", "LTreequery$Row;", true)
  | 1 => ("Treequery$Schema", "finals", "LTreequery$Row;", true)
  | 2 => ("Treequery$Schema", "rules", "LTreequery$Row;", true)
  | 3 => ("Treequery$Schema", "arcs", "LTreequery$Row;", true)
  | 4 => ("Treequery$Schema", "typeSets", "LTreequery$Row;", true)
  | 5 => ("Treequery$Schema", "haves", "LTreequery$Row;", true)
  | 6 => ("Treequery$Schema", "havers", "LTreequery$Row;", true)
  | 7 => ("Treequery$Schema", "told", "LTreequery$Row;", true)
  | 8 => ("Treequery$Schema", "textTypes", "I", false)
  | 9 => ("Treequery$Schema", "everything", "I", false)
  | _ => ("Treequery$Schema", "isStrict", "Z", false)
def tyX6 : Nat → FieldType := fun k => match k with
  | 0 => .object "Treequery$Row"
  | 1 => .object "Treequery$Row"
  | 2 => .object "Treequery$Row"
  | 3 => .object "Treequery$Row"
  | 4 => .object "Treequery$Row"
  | 5 => .object "Treequery$Row"
  | 6 => .object "Treequery$Row"
  | 7 => .object "Treequery$Row"
  | 8 => .int
  | 9 => .int
  | _ => .boolean
theorem nmX6 : ∀ a, a < 11 → ∀ b, b < 11 → a ≠ b → (TX6 a).2.1 ≠ (TX6 b).2.1 := by decide +kernel
theorem tyX6_ok : ∀ k, k < 11 → parseFieldDescriptor (TX6 k).2.2.1 = some (tyX6 k) := by decide +kernel
def RX7 : String := "Treequery$Sets"
def TX7 : u_T := fun k => match k with
  | _ => ("Treequery$Sets", "cells", "[J", true)
def tyX7 : Nat → FieldType := fun k => match k with
  | _ => .array .long
theorem nmX7 : ∀ a, a < 1 → ∀ b, b < 1 → a ≠ b → (TX7 a).2.1 ≠ (TX7 b).2.1 := by decide +kernel
theorem tyX7_ok : ∀ k, k < 1 → parseFieldDescriptor (TX7 k).2.2.1 = some (tyX7 k) := by decide +kernel
def RX8 : String := "Treequery$Tree"
def TX8 : u_T := fun k => match k with
  | 0 => ("Treequery$Tree", "layout", "LTreequery$Layout;", true)
  | 1 => ("Treequery$Tree", "kinds", "LTreequery$Row;", true)
  | 2 => ("Treequery$Tree", "names", "LTreequery$Row;", true)
  | 3 => ("Treequery$Tree", "contents", "LTreequery$Row;", true)
  | 4 => ("Treequery$Tree", "declared", "LTreequery$Row;", true)
  | 5 => ("Treequery$Tree", "parents", "LTreequery$Row;", true)
  | 6 => ("Treequery$Tree", "numbers", "LTreequery$Row;", true)
  | 7 => ("Treequery$Tree", "firsts", "LTreequery$Row;", true)
  | 8 => ("Treequery$Tree", "nexts", "LTreequery$Row;", true)
  | 9 => ("Treequery$Tree", "tails", "LTreequery$Row;", true)
  | _ => ("Treequery$Tree", "made", "I", false)
def tyX8 : Nat → FieldType := fun k => match k with
  | 0 => .object "Treequery$Layout"
  | 1 => .object "Treequery$Row"
  | 2 => .object "Treequery$Row"
  | 3 => .object "Treequery$Row"
  | 4 => .object "Treequery$Row"
  | 5 => .object "Treequery$Row"
  | 6 => .object "Treequery$Row"
  | 7 => .object "Treequery$Row"
  | 8 => .object "Treequery$Row"
  | 9 => .object "Treequery$Row"
  | _ => .int
theorem nmX8 : ∀ a, a < 11 → ∀ b, b < 11 → a ≠ b → (TX8 a).2.1 ≠ (TX8 b).2.1 := by decide +kernel
theorem tyX8_ok : ∀ k, k < 11 → parseFieldDescriptor (TX8 k).2.2.1 = some (tyX8 k) := by decide +kernel
def RX9 : String := "Treequery$Updates"
def TX9 : u_T := fun k => match k with
  | 0 => ("Treequery$Updates", "whats", "LTreequery$Row;", true)
  | 1 => ("Treequery$Updates", "targets", "LTreequery$Row;", true)
  | 2 => ("Treequery$Updates", "parents", "LTreequery$Row;", true)
  | 3 => ("Treequery$Updates", "places", "LTreequery$Row;", true)
  | 4 => ("Treequery$Updates", "kinds", "LTreequery$Row;", true)
  | 5 => ("Treequery$Updates", "names", "LTreequery$Row;", true)
  | 6 => ("Treequery$Updates", "contents", "LTreequery$Row;", true)
  | 7 => ("Treequery$Updates", "subjects", "LTreequery$Row;", true)
  | 8 => ("Treequery$Updates", "fresh", "J", false)
  | 9 => ("Treequery$Updates", "taken", "J", false)
  | 10 => ("Treequery$Updates", "entered", "J", false)
  | _ => ("Treequery$Updates", "count", "I", false)
def tyX9 : Nat → FieldType := fun k => match k with
  | 0 => .object "Treequery$Row"
  | 1 => .object "Treequery$Row"
  | 2 => .object "Treequery$Row"
  | 3 => .object "Treequery$Row"
  | 4 => .object "Treequery$Row"
  | 5 => .object "Treequery$Row"
  | 6 => .object "Treequery$Row"
  | 7 => .object "Treequery$Row"
  | 8 => .long
  | 9 => .long
  | 10 => .long
  | _ => .int
theorem nmX9 : ∀ a, a < 12 → ∀ b, b < 12 → a ≠ b → (TX9 a).2.1 ≠ (TX9 b).2.1 := by decide +kernel
theorem tyX9_ok : ∀ k, k < 12 → parseFieldDescriptor (TX9 k).2.2.1 = some (tyX9 k) := by decide +kernel
def RX10 : String := "Treequery"
def TX10 : u_T := fun k => match k with
  | 0 => ("Treequery", "tree", "LTreequery$Tree;", true)
  | 1 => ("Treequery", "spare", "LTreequery$Tree;", true)
  | 2 => ("Treequery", "updates", "LTreequery$Updates;", true)
  | 3 => ("Treequery", "paths", "LTreequery$Paths;", true)
  | 4 => ("Treequery", "all", "LTreequery$Finder;", true)
  | 5 => ("Treequery", "reader", "LTreequery$Finder;", true)
  | 6 => ("Treequery", "schema", "LTreequery$Schema;", true)
  | 7 => ("Treequery", "versions", "[LTreequery$Tree;", true)
  | 8 => ("Treequery", "viewPaths", "LTreequery$Row;", true)
  | 9 => ("Treequery", "viewChanges", "LTreequery$Row;", true)
  | 10 => ("Treequery", "viewSets", "LTreequery$Sets;", true)
  | 11 => ("Treequery", "edits", "LTreequery$Edits;", false)
  | 12 => ("Treequery", "versionCount", "I", false)
  | 13 => ("Treequery", "viewCount", "I", false)
  | 14 => ("Treequery", "renumberings", "I", false)
  | 15 => ("Treequery", "hiddenPaths", "J", false)
  | 16 => ("Treequery", "indexedNames", "J", false)
  | 17 => ("Treequery", "isReader", "Z", false)
  | _ => ("Treequery", "isReaderStale", "Z", false)
def tyX10 : Nat → FieldType := fun k => match k with
  | 0 => .object "Treequery$Tree"
  | 1 => .object "Treequery$Tree"
  | 2 => .object "Treequery$Updates"
  | 3 => .object "Treequery$Paths"
  | 4 => .object "Treequery$Finder"
  | 5 => .object "Treequery$Finder"
  | 6 => .object "Treequery$Schema"
  | 7 => .array (.object "Treequery$Tree")
  | 8 => .object "Treequery$Row"
  | 9 => .object "Treequery$Row"
  | 10 => .object "Treequery$Sets"
  | 11 => .object "Treequery$Edits"
  | 12 => .int
  | 13 => .int
  | 14 => .int
  | 15 => .long
  | 16 => .long
  | 17 => .boolean
  | _ => .boolean
theorem nmX10 : ∀ a, a < 19 → ∀ b, b < 19 → a ≠ b → (TX10 a).2.1 ≠ (TX10 b).2.1 := by decide +kernel
theorem tyX10_ok : ∀ k, k < 19 → parseFieldDescriptor (TX10 k).2.2.1 = some (tyX10 k) := by decide +kernel
def RX11 : String := "TreequeryModel"
def TX11 : u_T := fun k => match k with
  | 0 => ("TreequeryModel", "refusal", "I", false)
  | 1 => ("TreequeryModel", "made", "I", false)
  | 2 => ("TreequeryModel", "kinds", "[I", true)
  | 3 => ("TreequeryModel", "names", "[I", true)
  | 4 => ("TreequeryModel", "values", "[I", true)
  | 5 => ("TreequeryModel", "spaces", "[I", true)
  | 6 => ("TreequeryModel", "parents", "[I", true)
  | 7 => ("TreequeryModel", "places", "[I", true)
  | 8 => ("TreequeryModel", "numbers", "[I", true)
  | 9 => ("TreequeryModel", "isThere", "[Z", true)
  | 10 => ("TreequeryModel", "renumbered", "I", false)
  | 11 => ("TreequeryModel", "many", "I", false)
  | 12 => ("TreequeryModel", "order", "[I", true)
  | 13 => ("TreequeryModel", "positions", "[I", true)
  | 14 => ("TreequeryModel", "stack", "[I", true)
  | 15 => ("TreequeryModel", "listed", "I", false)
  | 16 => ("TreequeryModel", "list", "[I", true)
  | 17 => ("TreequeryModel", "backNames", "[I", true)
  | 18 => ("TreequeryModel", "backValues", "[I", true)
  | 19 => ("TreequeryModel", "backSpaces", "[I", true)
  | 20 => ("TreequeryModel", "backParents", "[I", true)
  | 21 => ("TreequeryModel", "backPlaces", "[I", true)
  | 22 => ("TreequeryModel", "backThere", "[Z", true)
  | 23 => ("TreequeryModel", "isNew", "[Z", true)
  | 24 => ("TreequeryModel", "paths", "I", false)
  | 25 => ("TreequeryModel", "stepCount", "[I", true)
  | 26 => ("TreequeryModel", "steps", "[I", true)
  | 27 => ("TreequeryModel", "conditionCount", "[I", true)
  | 28 => ("TreequeryModel", "conditions", "[I", true)
  | 29 => ("TreequeryModel", "finds", "[J", true)
  | 30 => ("TreequeryModel", "leads", "[J", true)
  | 31 => ("TreequeryModel", "counted", "J", false)
  | 32 => ("TreequeryModel", "isReader", "Z", false)
  | 33 => ("TreequeryModel", "hidden", "I", false)
  | 34 => ("TreequeryModel", "hiddenPaths", "[I", true)
  | 35 => ("TreequeryModel", "row", "[I", true)
  | 36 => ("TreequeryModel", "typeNames", "[I", true)
  | 37 => ("TreequeryModel", "allowsTexts", "[Z", true)
  | 38 => ("TreequeryModel", "says", "[I", true)
  | 39 => ("TreequeryModel", "finals", "[I", true)
  | 40 => ("TreequeryModel", "arcs", "[I", true)
  | 41 => ("TreequeryModel", "typesOf", "[I", true)
  | 42 => ("TreequeryModel", "isStrict", "Z", false)
  | 43 => ("TreequeryModel", "comes", "[I", true)
  | 44 => ("TreequeryModel", "isIndexed", "[Z", true)
  | 45 => ("TreequeryModel", "views", "I", false)
  | 46 => ("TreequeryModel", "viewPath", "[I", true)
  | 47 => ("TreequeryModel", "viewChange", "[I", true)
  | 48 => ("TreequeryModel", "viewBefore", "[J", true)
  | 49 => ("TreequeryModel", "versions", "I", false)
  | 50 => ("TreequeryModel", "keptThere", "[Z", true)
  | 51 => ("TreequeryModel", "keptNames", "[I", true)
  | 52 => ("TreequeryModel", "keptValues", "[I", true)
  | 53 => ("TreequeryModel", "keptSpaces", "[I", true)
  | 54 => ("TreequeryModel", "keptParents", "[I", true)
  | 55 => ("TreequeryModel", "keptPlaces", "[I", true)
  | 56 => ("TreequeryModel", "sizes", "[I", true)
  | 57 => ("TreequeryModel", "late", "[I", true)
  | 58 => ("TreequeryModel", "firsts", "[I", true)
  | 59 => ("TreequeryModel", "apart", "[I", true)
  | _ => ("TreequeryModel", "forest", "[I", true)
def tyX11 : Nat → FieldType := fun k => match k with
  | 0 => .int
  | 1 => .int
  | 2 => .array .int
  | 3 => .array .int
  | 4 => .array .int
  | 5 => .array .int
  | 6 => .array .int
  | 7 => .array .int
  | 8 => .array .int
  | 9 => .array .boolean
  | 10 => .int
  | 11 => .int
  | 12 => .array .int
  | 13 => .array .int
  | 14 => .array .int
  | 15 => .int
  | 16 => .array .int
  | 17 => .array .int
  | 18 => .array .int
  | 19 => .array .int
  | 20 => .array .int
  | 21 => .array .int
  | 22 => .array .boolean
  | 23 => .array .boolean
  | 24 => .int
  | 25 => .array .int
  | 26 => .array .int
  | 27 => .array .int
  | 28 => .array .int
  | 29 => .array .long
  | 30 => .array .long
  | 31 => .long
  | 32 => .boolean
  | 33 => .int
  | 34 => .array .int
  | 35 => .array .int
  | 36 => .array .int
  | 37 => .array .boolean
  | 38 => .array .int
  | 39 => .array .int
  | 40 => .array .int
  | 41 => .array .int
  | 42 => .boolean
  | 43 => .array .int
  | 44 => .array .boolean
  | 45 => .int
  | 46 => .array .int
  | 47 => .array .int
  | 48 => .array .long
  | 49 => .int
  | 50 => .array .boolean
  | 51 => .array .int
  | 52 => .array .int
  | 53 => .array .int
  | 54 => .array .int
  | 55 => .array .int
  | 56 => .array .int
  | 57 => .array .int
  | 58 => .array .int
  | 59 => .array .int
  | _ => .array .int
theorem nmX11 : ∀ a, a < 61 → ∀ b, b < 61 → a ≠ b → (TX11 a).2.1 ≠ (TX11 b).2.1 := by decide +kernel
theorem tyX11_ok : ∀ k, k < 61 → parseFieldDescriptor (TX11 k).2.2.1 = some (tyX11 k) := by decide +kernel
/-- the classes whose objects the worlds hold -/
abbrev tq_cl : List vw_C := [(RX0, TX0, 0), (RX1, TX1, 7), (RX2, TX2, 8), (RX3, TX3, 13), (RX4, TX4, 10), (RX5, TX5, 1), (RX6, TX6, 11), (RX7, TX7, 1), (RX8, TX8, 11), (RX9, TX9, 12), (RX10, TX10, 19), (RX11, TX11, 61)]
def tq_G : List Cond := lw_tbl.filter goodWord
theorem tq_g {i : Nat} {w : Cond} (h : lw_tbl[i]? = some w) (g : goodWord w = true) : w ∈ tq_G := List.mem_filter.mpr ⟨List.mem_of_getElem? h, g⟩
theorem tq_Gt : ∀ w ∈ tq_G, w ∈ lw_tbl := fun _ h => (List.mem_filter.mp h).1
theorem tq_Gg : ∀ w ∈ tq_G, goodWord w = true := fun _ h => (List.mem_filter.mp h).2
theorem tq_in0 : ∀ w ∈ u_ws RX0 TX0 0, w ∈ tq_G := by decide +kernel
theorem tq_in1 : ∀ w ∈ u_ws RX1 TX1 7, w ∈ tq_G := by decide +kernel
theorem tq_in2 : ∀ w ∈ u_ws RX2 TX2 8, w ∈ tq_G := by decide +kernel
theorem tq_in3 : ∀ w ∈ u_ws RX3 TX3 13, w ∈ tq_G := by decide +kernel
theorem tq_in4 : ∀ w ∈ u_ws RX4 TX4 10, w ∈ tq_G := by decide +kernel
theorem tq_in5 : ∀ w ∈ u_ws RX5 TX5 1, w ∈ tq_G := by decide +kernel
theorem tq_in6 : ∀ w ∈ u_ws RX6 TX6 11, w ∈ tq_G := by decide +kernel
theorem tq_in7 : ∀ w ∈ u_ws RX7 TX7 1, w ∈ tq_G := by decide +kernel
theorem tq_in8 : ∀ w ∈ u_ws RX8 TX8 11, w ∈ tq_G := by decide +kernel
theorem tq_in9 : ∀ w ∈ u_ws RX9 TX9 12, w ∈ tq_G := by decide +kernel
theorem tq_in10 : ∀ w ∈ u_ws RX10 TX10 19, w ∈ tq_G := by decide +kernel
theorem tq_in11 : ∀ w ∈ u_ws RX11 TX11 61, w ∈ tq_G := by decide +kernel
end
section
/-! ===== the machine seen small: worlds whose objects bear numbers, one judgement for all methods ===== -/
/-- an object: its class's number and its fields; or an array: its type's number, its length and its contents. A reference is an object's number here; .float stands for some reference that the world doesn't hold (a caught exception). -/
abbrev tq_O : Type := (Nat × List Value) ⊕ (Nat × vp_A)
/-- how many objects there are, and which -/
abbrev tq_H : Type := Nat × (Nat → tq_O)
/-- how a method ends: with a value, or with an exception of a class -/
abbrev tq_R : Type := Option Value ⊕ String
def tq_up (h : tq_H) (k : Nat) (o : tq_O) : tq_H := (h.1, fun j => if j = k then o else h.2 j)
def tq_new (h : tq_H) (o : tq_O) : tq_H := (h.1 + 1, fun j => if j = h.1 then o else h.2 j)
def tq_vr (ad : List Nat) (v w : Value) : Prop := match v with
  | .ref k => ∃ a : Nat, ad[k]? = some a ∧ w = .ref a
  | .float _ => ∃ a : Nat, w = .ref a
  | x => w = x
def tq_al {α β : Type} (r : α → β → Prop) : List α → List β → Prop
  | [], [] => True
  | a :: l, b :: m => r a b ∧ tq_al r l m
  | _, _ => False
def tq_xr (ad : List Nat) (x y : (Nat → Int32) ⊕ (Nat → Int64) ⊕ (Nat → UInt32) ⊕ (Nat → UInt64) ⊕ (Nat → Option Nat)) : Prop := match x with
  | .inr (.inr (.inr (.inr f))) => ∃ g : Nat → Option Nat, y = .inr (.inr (.inr (.inr g))) ∧ ∀ j, (f j = none → g j = none) ∧ ∀ i, f j = some i → ∃ a, ad[i]? = some a ∧ g j = some a
  | z => y = z
def tq_or (cA : Nat → ClassId) (ad : List Nat) (o : tq_O) (e : va_E) : Prop := match o with
  | .inl (ci, fs) => ∃ gs, e = .inr (ci, gs) ∧ tq_al (tq_vr ad) fs gs
  | .inr (t, (n, x)) => ∃ y, e = .inl (cA t, n, y) ∧ tq_xr ad x y
abbrev tq_ad (ws : va_W) : List Nat := ws.map Prod.fst
def tq_w (cA : Nat → ClassId) (h : tq_H) (ws : va_W) : Prop := ws.length = h.1 ∧ ∀ (k : Nat) (q : Nat × va_E), ws[k]? = some q → tq_or cA (tq_ad ws) (h.2 k) q.2
def tq_lr (ad : List Nat) (q r : Nat × Value) : Prop := q.1 = r.1 ∧ tq_vr ad q.2 r.2
def tq_lv (nL : Nat) (ad : List Nat) (L : List (Nat × Value)) (ls : Array Slot) : Prop := ∃ L', lv_has ls nL L' ∧ tq_al (tq_lr ad) L L'
/-- the array types: int, boolean, long, Tree -/
def tq_ty (cA : Nat → ClassId) : List (ClassId × FieldType) := [(cA 0, .int), (cA 1, .boolean), (cA 2, .long), (cA 3, .object "Treequery$Tree")]
theorem tq_al.mono {α β : Type} {r r' : α → β → Prop} (h : ∀ a b, r a b → r' a b) : ∀ {l : List α} {m : List β}, tq_al r l m → tq_al r' l m
  | [], [], _ => trivial
  | _ :: _, _ :: _, q => ⟨h _ _ q.1, tq_al.mono h q.2⟩
  | [], _ :: _, q => q.elim
  | _ :: _, [], q => q.elim
theorem tq_al.len {α β : Type} {r : α → β → Prop} : ∀ {l : List α} {m : List β}, tq_al r l m → l.length = m.length
  | [], [], _ => rfl
  | _ :: _, _ :: _, q => congrArg (· + 1) (tq_al.len q.2)
  | [], _ :: _, q => q.elim
  | _ :: _, [], q => q.elim
theorem tq_al.at {α β : Type} {r : α → β → Prop} : ∀ {l : List α} {m : List β}, tq_al r l m → ∀ {k : Nat} {a : α}, l[k]? = some a → ∃ b, m[k]? = some b ∧ r a b
  | [], [], _, k, a, h => by simp at h
  | a0 :: _, b0 :: _, q, 0, a, h => ⟨b0, rfl, by cases (Option.some.inj (show some a0 = some a from h)); exact q.1⟩
  | _ :: _, _ :: _, q, k + 1, a, h => tq_al.at q.2 (k := k) h
  | [], _ :: _, q, _, _, _ => q.elim
  | _ :: _, [], q, _, _, _ => q.elim
theorem tq_al.set {α β : Type} {r : α → β → Prop} {a : α} {b : β} (hr : r a b) : ∀ {l : List α} {m : List β}, tq_al r l m → ∀ (k : Nat), tq_al r (l.set k a) (m.set k b)
  | [], [], _, _ => trivial
  | _ :: _, _ :: _, q, 0 => ⟨hr, q.2⟩
  | _ :: _, _ :: _, q, k + 1 => ⟨q.1, tq_al.set hr q.2 k⟩
  | [], _ :: _, q, _ => q.elim
  | _ :: _, [], q, _ => q.elim
theorem tq_al.app {α β : Type} {r : α → β → Prop} {l' : List α} {m' : List β} (h' : tq_al r l' m') : ∀ {l : List α} {m : List β}, tq_al r l m → tq_al r (l ++ l') (m ++ m')
  | [], [], _ => h'
  | _ :: _, _ :: _, q => ⟨q.1, tq_al.app h' q.2⟩
  | [], _ :: _, q => q.elim
  | _ :: _, [], q => q.elim
theorem tq_al.rev {α β : Type} {r : α → β → Prop} : ∀ {l : List α} {m : List β}, tq_al r l m → tq_al r l.reverse m.reverse
  | [], [], _ => trivial
  | _ :: _, _ :: _, q => by
    rw [List.reverse_cons, List.reverse_cons]
    exact tq_al.app (show tq_al r [_] [_] from ⟨q.1, trivial⟩) (tq_al.rev q.2)
  | [], _ :: _, q => q.elim
  | _ :: _, [], q => q.elim
theorem tq_al.cut {α β : Type} {r : α → β → Prop} : ∀ {l : List α} {l2 : List α} {m : List β}, tq_al r (l ++ l2) m → ∃ m1 m2, m = m1 ++ m2 ∧ tq_al r l m1 ∧ tq_al r l2 m2
  | [], l2, m, q => ⟨[], m, rfl, trivial, q⟩
  | a :: l, l2, b :: m, q => by
    obtain ⟨m1, m2, e, q1, q2⟩ := tq_al.cut (l := l) q.2
    exact ⟨b :: m1, m2, by rw [e]; rfl, ⟨q.1, q1⟩, q2⟩
  | _ :: _, _, [], q => q.elim
theorem tq_al.fil {α β : Type} {r : α → β → Prop} {f : α → Bool} {g : β → Bool} (h : ∀ a b, r a b → f a = g b) : ∀ {l : List α} {m : List β}, tq_al r l m → tq_al r (l.filter f) (m.filter g)
  | [], [], _ => trivial
  | a :: l, b :: m, q => by
    have e := h a b q.1
    rw [List.filter_cons, List.filter_cons, e]
    cases g b
    · exact tq_al.fil h q.2
    · exact ⟨q.1, tq_al.fil h q.2⟩
  | [], _ :: _, q => q.elim
  | _ :: _, [], q => q.elim
theorem tq_pre {ad ad2 : List Nat} (h : ad <+: ad2) {k a : Nat} (e : ad[k]? = some a) : ad2[k]? = some a := by
  obtain ⟨t, rfl⟩ := h
  have hl := (List.getElem?_eq_some_iff.mp e).1
  rw [List.getElem?_append_left hl]
  exact e
theorem tq_vr.mono {ad ad2 : List Nat} (h : ad <+: ad2) {v w : Value} (q : tq_vr ad v w) : tq_vr ad2 v w := by
  cases v with
  | ref k => obtain ⟨a, h1, h2⟩ := q; exact ⟨a, tq_pre h h1, h2⟩
  | _ => exact q
theorem tq_xr.mono {ad ad2 : List Nat} (h : ad <+: ad2) {x y : (Nat → Int32) ⊕ (Nat → Int64) ⊕ (Nat → UInt32) ⊕ (Nat → UInt64) ⊕ (Nat → Option Nat)} (q : tq_xr ad x y) : tq_xr ad2 x y := by
  rcases x with x | x | x | x | x
  · exact q
  · exact q
  · exact q
  · exact q
  · obtain ⟨g, h1, h2⟩ := q
    exact ⟨g, h1, fun j => ⟨(h2 j).1, fun i hi => by obtain ⟨a, q1, q2⟩ := (h2 j).2 i hi; exact ⟨a, tq_pre h q1, q2⟩⟩⟩
theorem tq_or.mono {cA : Nat → ClassId} {ad ad2 : List Nat} (h : ad <+: ad2) {o : tq_O} {e : va_E} (q : tq_or cA ad o e) : tq_or cA ad2 o e := by
  rcases o with ⟨ci, fs⟩ | ⟨t, n, x⟩
  · obtain ⟨gs, h1, h2⟩ := q
    exact ⟨gs, h1, h2.mono fun _ _ => tq_vr.mono h⟩
  · obtain ⟨y, h1, h2⟩ := q
    exact ⟨y, h1, h2.mono h⟩
theorem tq_vr.cat {ad : List Nat} {v w : Value} (q : tq_vr ad v w) : v.category = w.category := by
  cases v with
  | ref k => obtain ⟨a, h1, rfl⟩ := q; rfl
  | float k => obtain ⟨a, rfl⟩ := q; rfl
  | _ => cases q; rfl
theorem tq_w.get {cA : Nat → ClassId} {h : tq_H} {ws : va_W} (W : tq_w cA h ws) {k a : Nat} (e : (tq_ad ws)[k]? = some a) : ∃ x, ws[k]? = some (a, x) ∧ tq_or cA (tq_ad ws) (h.2 k) x := by
  rw [List.getElem?_map] at e
  cases q : ws[k]? with
  | none => rw [q] at e; cases e
  | some z =>
    rw [q] at e
    obtain ⟨b, x⟩ := z
    cases e
    exact ⟨x, rfl, W.2 k _ q⟩
theorem tq_ad_set {ws : va_W} {k a : Nat} {x y : va_E} (e : ws[k]? = some (a, x)) : tq_ad (ws.set k (a, y)) = tq_ad ws := by
  apply List.ext_getElem?
  intro j
  rw [List.getElem?_map, List.getElem?_map]
  by_cases q : k = j
  · subst q
    rw [List.getElem?_set_self (List.getElem?_eq_some_iff.mp e).1, e]
    rfl
  · rw [List.getElem?_set_ne q]
theorem tq_w.set {cA : Nat → ClassId} {h : tq_H} {ws : va_W} (W : tq_w cA h ws) {k a : Nat} {x y : va_E} {o : tq_O} (e : ws[k]? = some (a, x)) (ho : tq_or cA (tq_ad ws) o y) : tq_w cA (tq_up h k o) (ws.set k (a, y)) := by
  refine ⟨by rw [List.length_set]; exact W.1, fun j q hq => ?_⟩
  rw [tq_ad_set e]
  by_cases z : k = j
  · subst z
    rw [List.getElem?_set_self (List.getElem?_eq_some_iff.mp e).1] at hq
    cases hq
    show tq_or cA _ (if k = k then o else h.2 k) y
    rw [if_pos rfl]
    exact ho
  · rw [List.getElem?_set_ne z] at hq
    show tq_or cA _ (if j = k then o else h.2 j) q.2
    rw [if_neg (fun r => z r.symm)]
    exact W.2 j q hq
theorem tq_ad_push (ws : va_W) (a : Nat) (y : va_E) : tq_ad (ws ++ [(a, y)]) = tq_ad ws ++ [a] := by simp [tq_ad]
theorem tq_ad_pre (ws : va_W) (a : Nat) (y : va_E) : tq_ad ws <+: tq_ad (ws ++ [(a, y)]) := by rw [tq_ad_push]; exact List.prefix_append _ _
theorem tq_w.push {cA : Nat → ClassId} {h : tq_H} {ws : va_W} (W : tq_w cA h ws) {a : Nat} {y : va_E} {o : tq_O} (ho : tq_or cA (tq_ad ws) o y) : tq_w cA (tq_new h o) (ws ++ [(a, y)]) ∧ tq_vr (tq_ad (ws ++ [(a, y)])) (.ref h.1) (.ref a) := by
  refine ⟨⟨by rw [List.length_append, W.1]; rfl, fun j q hq => ?_⟩, a, ?_, rfl⟩
  · by_cases hl : j < ws.length
    · rw [List.getElem?_append_left hl] at hq
      show tq_or cA _ (if j = h.1 then o else h.2 j) q.2
      rw [if_neg (by rw [← W.1]; omega)]
      exact (W.2 j q hq).mono (tq_ad_pre ws a y)
    · rw [List.getElem?_append_right (by omega)] at hq
      have hz : j - ws.length < 1 := (List.getElem?_eq_some_iff.mp hq).1
      have hj : j = ws.length := by omega
      subst hj
      rw [Nat.sub_self] at hq
      cases hq
      show tq_or cA _ (if ws.length = h.1 then o else h.2 ws.length) y
      rw [if_pos W.1]
      exact ho.mono (tq_ad_pre ws a y)
  · rw [tq_ad_push, ← W.1, List.getElem?_append_right (by simp [tq_ad])]
    simp [tq_ad]
/-- the texts of the class's throws, by their places in its file -/
def tq_str : List (Nat × String) := [(442, "there is no such node"), (448, "there is no such place"), (456, "an argument is out of its range"), (458, "it is no element"), (460, "there are 20 updates"), (151, "the root stays"), (166, "a text has no name"), (168, "an element has no value of its own"), (170, "neither the root nor an attribute is moved"), (179, "the updates do not go together or with the tree"), (192, "the updates make no tree"), (200, "the updates make no valid tree"), (452, "a place is not below 0"), (257, "there are 20 paths"), (462, "there is no such path"), (464, "it is no lower path"), (270, "only REPEAT has a path"), (466, "it is not the last path"), (468, "the path has a view"), (279, "the path has 5 steps"), (470, "the path has no step"), (475, "the last step has 2 conditions"), (477, "a reader does not see the node"), (450, "the path finds not so many"), (454, "there is no such type, state or view"), (479, "the schema is strict"), (358, "the tree is not valid"), (390, "there are 5 views"), (401, "there are 6 versions"), (481, "there is no such version"), (412, "there are updates in the list"), (414, "the version is not valid"), (435, "3 paths are hidden")]
def tq_isB : Cond → Bool
  | .declares .. => true
  | .castable .. => true
  | .methodLinkNest .. => true
  | _ => false
/-- the words that the good ones leave out -/
def tq_B : List Cond := lw_tbl.filter tq_isB
def tq_bx (U : State) : Prop := (∀ w ∈ tq_B, va_Nw w U) ∧ (∀ q ∈ tq_str, ∃ a, vk_R RX10 q.1 q.2 a U) ∧ va_AO "Treequery$Tree" U
theorem tq_bx.warm {s U : State} (hW : s.WarmedH U.vm) (h : tq_bx s) : tq_bx U := by
  refine ⟨fun w hw => ?_, fun q hq => ?_, h.2.2.moved hW.alike⟩
  · have h1 := h.1 w hw
    have h2 := (List.mem_filter.mp hw).2
    cases w <;> first | (cases h2; done) | exact va_Nw.warmD hW h1 | exact va_Nw.warmC hW h1 | exact va_Nw.warmM hW h1
  · obtain ⟨a, ha⟩ := h.2.1 q hq
    exact ⟨a, vk_R.warm hW ha⟩
theorem tq_bx.same {u U : State} (hv : U.vm = u.vm) (h : tq_bx u) : tq_bx U := by
  refine ⟨fun w hw => ?_, fun q hq => ?_, h.2.2.moved (by rw [hv]; exact Vm.Alike.refl _)⟩
  · have h1 := h.1 w hw
    have h2 := (List.mem_filter.mp hw).2
    cases w <;> first | (cases h2; done) | exact va_Nw.same rfl hv.symm h1
  · obtain ⟨a, ha⟩ := h.2.1 q hq
    exact ⟨a, vk_R.same hv ha⟩
/-- a method's body: its class, its bytecode, its locals, its answer's type, whether it makes an object, its table of handlers -/
abbrev tq_M : Type := String × ByteArray × Nat × Option FieldType × Bool × List (Nat × Nat × Nat × Nat)
def tq_end (D : va_G) (cA : Nat → ClassId) (A : Nat → Prop) (ad0 : List Nat) (h : tq_H) (t : State) : Prop := ∃ ws : va_W, va_P D tq_cl ws t.heap ∧ va_D A ws ∧ tq_w cA h ws ∧ ad0 <+: tq_ad ws
def tq_endv (D : va_G) (cA : Nat → ClassId) (A : Nat → Prop) (ad0 : List Nat) (v w : Value) (h : tq_H) (t : State) : Prop := ∃ ws : va_W, va_P D tq_cl ws t.heap ∧ va_D A ws ∧ tq_w cA h ws ∧ ad0 <+: tq_ad ws ∧ tq_vr (tq_ad ws) v w
def tq_Qc (D : va_G) (cA : Nat → ClassId) (A : Nat → Prop) (ad0 : List Nat) (Q : tq_R → tq_H → Prop) : Array Value → State → Outcome → State → Prop := fun _ st o t =>
  ((o = .returned none ∧ ∃ h, Q (.inl none) h ∧ tq_end D cA A ad0 h t) ∨ ∃ v w h, o = .returned (some w) ∧ Q (.inl (some v)) h ∧ tq_endv D cA A ad0 v w h t) ∧ va_F A st t
def tq_XC (D : va_G) (cA : Nat → ClassId) (A : Nat → Prop) (ad0 : List Nat) (Q : tq_R → tq_H → Prop) : String → State → State → Prop := fun E st t =>
  (∃ h, Q (.inr E) h ∧ tq_end D cA A ad0 h t) ∧ va_F A st t
def tq_zq (A : Nat → Prop) (U : State) (H : Heap) : Prop := vx_Zq Bundle.tN "UNASSIGNED_STACK" Bundle.steD A U H ∧ vx_Zq Bundle.tN "SUPPRESSED_SENTINEL" Bundle.listD A U H
/-- what a body stands on, all along -/
def tq_cx (l : Launch) (M : tq_M) (d : Nat) (p : Program) (R : Room) (s : State) (m : MethodId) (args : Array Value) (meth : Method) (c : Code) (D : va_G) (cA : Nat → ClassId) (A : Nat → Prop) (mc ms : Nat) : Prop :=
  p.tables.exec = Jvm.exec ∧ c.code = M.2.1 ∧ c.maxLocals = M.2.2.1 ∧ meth.sig.returnType = M.2.2.2.1 ∧ meth.locks = false ∧ s.vm.findClass M.1 = some m.cls ∧ (∀ w ∈ tq_G, w.before args s = true) ∧ va_K D tq_cl (tq_ty cA) s ∧ R.frames = d ∧ R.locals = 38 * d + 20 ∧ mc ≤ R.cells ∧ ms ≤ R.slots ∧ (∀ q, s.heap.size ≤ q → A q) ∧ tq_zq A s s.heap ∧ (M.2.2.2.2.1 = true → meth.name = "<init>") ∧ c.exceptionTable.toList = tableOf M.2.2.2.2.2 ∧ tq_bx s ∧ l.stackTraces = false
/-- the world now, and what of it the frame holds -/
def tq_dy (nL : Nat) (D : va_G) (cA : Nat → ClassId) (A : Nat → Prop) (ad0 : List Nat) (H0 : Heap) (h : tq_H) (L : List (Nat × Value)) (S : List Value) (H : Heap) (locs : List Loc) (ws : va_W) (ls : Array Slot) (S' : List Value) : Prop :=
  va_P D tq_cl ws H ∧ va_D A ws ∧ va_S A H0 H locs ∧ tq_w cA h ws ∧ ad0 <+: tq_ad ws ∧ tq_lv nL (tq_ad ws) L ls ∧ tq_al (tq_vr (tq_ad ws)) S S'
def tq_W (l : Launch) (M : tq_M) (d bc bs : Nat) (Q : tq_R → tq_H → Prop) (pc : Nat) (L : List (Nat × Value)) (S : List Value) (h : tq_H) : Prop :=
  ∀ ⦃p : Program⦄ ⦃e : Env⦄ ⦃R : Room⦄ ⦃s : State⦄ ⦃m : MethodId⦄ ⦃args : Array Value⦄ ⦃below : List Frame⦄ ⦃meth : Method⦄ ⦃c : Code⦄ ⦃D : va_G⦄ ⦃cA : Nat → ClassId⦄ ⦃A : Nat → Prop⦄ ⦃ad0 : List Nat⦄ ⦃mc ms : Nat⦄, tq_cx l M d p R s m args meth c D cA A mc ms →
  ∀ ⦃H : Heap⦄ ⦃locs : List Loc⦄ ⦃cells slots : Nat⦄ ⦃ws : va_W⦄ ⦃ls : Array Slot⦄ ⦃S' : List Value⦄, tq_dy M.2.2.1 D cA A ad0 s.heap h L S H locs ws ls S' → cells + bc ≤ mc → slots + bs ≤ ms →
  W p l e R s m args below meth c H locs cells slots (vx_MQ below (tq_Qc D cA A ad0 Q) (tq_XC D cA A ad0 Q) args s mc ms A) (F0 m pc ls S')
/-- the same, with an exception thrown in the frame -/
def tq_X (l : Launch) (M : tq_M) (d bc bs : Nat) (Q : tq_R → tq_H → Prop) (E : String) (pc : Nat) (L : List (Nat × Value)) (h : tq_H) : Prop :=
  ∀ ⦃p : Program⦄ ⦃e : Env⦄ ⦃R : Room⦄ ⦃s : State⦄ ⦃m : MethodId⦄ ⦃args : Array Value⦄ ⦃below : List Frame⦄ ⦃meth : Method⦄ ⦃c : Code⦄ ⦃D : va_G⦄ ⦃cA : Nat → ClassId⦄ ⦃A : Nat → Prop⦄ ⦃ad0 : List Nat⦄ ⦃mc ms : Nat⦄, tq_cx l M d p R s m args meth c D cA A mc ms →
  ∀ ⦃H : Heap⦄ ⦃locs : List Loc⦄ ⦃cells slots : Nat⦄ ⦃ws : va_W⦄ ⦃ls : Array Slot⦄ ⦃S' : List Value⦄ ⦃ce : Cell⦄ ⦃q : Addr⦄, tq_dy M.2.2.1 D cA A ad0 s.heap h L [] H locs ws ls [] → cells + bc ≤ mc → slots + bs ≤ ms → H[q]? = some ce → ce.vm = .none → s.vm.findClass E = some ce.cls →
  vx_W p l e R s m args below meth c H locs cells slots (vx_MQ below (tq_Qc D cA A ad0 Q) (tq_XC D cA A ad0 Q) args s mc ms A) (F0 m pc ls S') q
section TQ1
variable {nL : Nat} {D : va_G} {cA : Nat → ClassId} {A : Nat → Prop} {ad0 : List Nat} {H0 : Heap} {h : tq_H} {L : List (Nat × Value)} {S : List Value} {H : Heap} {locs : List Loc} {ws : va_W} {ls : Array Slot} {S' : List Value}
theorem tq_pop {v : Value} (Y : tq_dy nL D cA A ad0 H0 h L (v :: S) H locs ws ls S') : ∃ v' S1, S' = v' :: S1 ∧ tq_vr (tq_ad ws) v v' ∧ tq_dy nL D cA A ad0 H0 h L S H locs ws ls S1 := by
  obtain ⟨a, b, c, d, e, f, g⟩ := Y
  cases S' with
  | nil => exact g.elim
  | cons v' S1 => exact ⟨v', S1, rfl, g.1, a, b, c, d, e, f, g.2⟩
theorem tq_popI {x : Int32} (Y : tq_dy nL D cA A ad0 H0 h L (.int x :: S) H locs ws ls S') : ∃ S1, S' = .int x :: S1 ∧ tq_dy nL D cA A ad0 H0 h L S H locs ws ls S1 := by
  obtain ⟨v', S1, e, r, Y1⟩ := tq_pop Y
  exact ⟨S1, by rw [e, show v' = .int x from r], Y1⟩
theorem tq_popL {x : Int64} (Y : tq_dy nL D cA A ad0 H0 h L (.long x :: S) H locs ws ls S') : ∃ S1, S' = .long x :: S1 ∧ tq_dy nL D cA A ad0 H0 h L S H locs ws ls S1 := by
  obtain ⟨v', S1, e, r, Y1⟩ := tq_pop Y
  exact ⟨S1, by rw [e, show v' = .long x from r], Y1⟩
theorem tq_popN (Y : tq_dy nL D cA A ad0 H0 h L (.null :: S) H locs ws ls S') : ∃ S1, S' = .null :: S1 ∧ tq_dy nL D cA A ad0 H0 h L S H locs ws ls S1 := by
  obtain ⟨v', S1, e, r, Y1⟩ := tq_pop Y
  exact ⟨S1, by rw [e, show v' = .null from r], Y1⟩
theorem tq_popR {k : Nat} (Y : tq_dy nL D cA A ad0 H0 h L (.ref k :: S) H locs ws ls S') : ∃ a x S1, S' = .ref a :: S1 ∧ ws[k]? = some (a, x) ∧ tq_or cA (tq_ad ws) (h.2 k) x ∧ tq_dy nL D cA A ad0 H0 h L S H locs ws ls S1 := by
  obtain ⟨v', S1, e, ⟨a, h1, h2⟩, Y1⟩ := tq_pop Y
  obtain ⟨x, h3, h4⟩ := Y.2.2.2.1.get h1
  exact ⟨a, x, S1, by rw [e, h2], h3, h4, Y1⟩
theorem tq_psh {v v' : Value} (Y : tq_dy nL D cA A ad0 H0 h L S H locs ws ls S') (r : tq_vr (tq_ad ws) v v') : tq_dy nL D cA A ad0 H0 h L (v :: S) H locs ws ls (v' :: S') := by
  obtain ⟨a, b, c, d, e, f, g⟩ := Y
  exact ⟨a, b, c, d, e, f, r, g⟩
theorem tq_al_at {ad : List Nat} {L L' : List (Nat × Value)} (hal : tq_al (tq_lr ad) L L') {i : Nat} {v : Value} (hm : L.lookup i = some v) : ∃ v', (i, v') ∈ L' ∧ tq_vr ad v v' := by
  induction L generalizing L' with
  | nil => cases hm
  | cons q L ih =>
    cases L' with
    | nil => exact hal.elim
    | cons r L' =>
      obtain ⟨j, w⟩ := q
      obtain ⟨j', w'⟩ := r
      obtain ⟨⟨e1, e2⟩, e3⟩ := hal
      cases e1
      rw [List.lookup_cons] at hm
      split at hm
      · rename_i hq
        cases hm
        have hij : i = j := by simpa using hq
        subst hij
        exact ⟨w', List.mem_cons_self, e2⟩
      · obtain ⟨v', h1, h2⟩ := ih e3 hm
        exact ⟨v', List.mem_cons_of_mem _ h1, h2⟩
theorem tq_loc (Y : tq_dy nL D cA A ad0 H0 h L S H locs ws ls S') {i : Nat} {v : Value} (hl : L.lookup i = some v) : ∃ v', ls[i]? = some (.val v') ∧ tq_vr (tq_ad ws) v v' := by
  obtain ⟨L', h1, h2⟩ := Y.2.2.2.2.2.1
  obtain ⟨v', h3, h4⟩ := tq_al_at h2 hl
  exact ⟨v', h1.2.2 (i, v') h3, h4⟩
/-- locals behind a store of one slot -/
abbrev tq_st1 (L : List (Nat × Value)) (i : Nat) (v : Value) : List (Nat × Value) := (i, v) :: L.filter (fun q => !(q.1 == i) && !(q.1 + 1 == i && q.2.category == 2))
abbrev tq_st2 (L : List (Nat × Value)) (i : Nat) (v : Value) : List (Nat × Value) := (i, v) :: L.filter (fun q => !(q.1 == i) && (!(q.1 == i + 1) && !(q.1 + 1 == i && q.2.category == 2)))
theorem tq_al_st1 {ad : List Nat} {L' : List (Nat × Value)} (hal : tq_al (tq_lr ad) L L') (i : Nat) {v v' : Value} (r : tq_vr ad v v') : tq_al (tq_lr ad) (tq_st1 L i v) (tq_st1 L' i v') :=
  ⟨⟨rfl, r⟩, tq_al.fil (fun a b q => by rw [q.1, q.2.cat]) hal⟩
theorem tq_al_st2 {ad : List Nat} {L' : List (Nat × Value)} (hal : tq_al (tq_lr ad) L L') (i : Nat) {v v' : Value} (r : tq_vr ad v v') : tq_al (tq_lr ad) (tq_st2 L i v) (tq_st2 L' i v') :=
  ⟨⟨rfl, r⟩, tq_al.fil (fun a b q => by rw [q.1, q.2.cat]) hal⟩
theorem tq_dyl {L2 : List (Nat × Value)} {ls2 : Array Slot} (Y : tq_dy nL D cA A ad0 H0 h L S H locs ws ls S') (k : tq_lv nL (tq_ad ws) L2 ls2) : tq_dy nL D cA A ad0 H0 h L2 S H locs ws ls2 S' := by
  obtain ⟨a, b, c, d, e, f, g⟩ := Y
  exact ⟨a, b, c, d, e, k, g⟩
/-- an object's new contents -/
theorem tq_dyu {H1 : Heap} {locs1 : List Loc} {k a : Nat} {x y : va_E} {o : tq_O} (Y : tq_dy nL D cA A ad0 H0 h L S H locs ws ls S') (e : ws[k]? = some (a, x)) (ho : tq_or cA (tq_ad ws) o y)
    (P : va_P D tq_cl (ws.set k (a, y)) H1) (DD : va_D A (ws.set k (a, y))) (SS : va_S A H0 H1 locs1) : tq_dy nL D cA A ad0 H0 (tq_up h k o) L S H1 locs1 (ws.set k (a, y)) ls S' := by
  obtain ⟨-, -, -, w, e5, f, g⟩ := Y
  refine ⟨P, DD, SS, w.set e ho, ?_, ?_, ?_⟩
  · rw [tq_ad_set e]; exact e5
  · rw [tq_ad_set e]; exact f
  · rw [tq_ad_set e]; exact g
/-- a new object -/
theorem tq_dyn {H1 : Heap} {locs1 : List Loc} {a : Nat} {y : va_E} {o : tq_O} (Y : tq_dy nL D cA A ad0 H0 h L S H locs ws ls S') (ho : tq_or cA (tq_ad ws) o y)
    (P : va_P D tq_cl (ws ++ [(a, y)]) H1) (DD : va_D A (ws ++ [(a, y)])) (SS : va_S A H0 H1 locs1) : tq_dy nL D cA A ad0 H0 (tq_new h o) L (.ref h.1 :: S) H1 locs1 (ws ++ [(a, y)]) ls (.ref a :: S') := by
  obtain ⟨-, -, -, w, e5, ⟨L', f1, f2⟩, g⟩ := Y
  have hp := tq_ad_pre ws a y
  exact ⟨P, DD, SS, (w.push ho).1, List.IsPrefix.trans e5 hp, ⟨L', f1, f2.mono fun _ _ q => ⟨q.1, q.2.mono hp⟩⟩, (w.push ho).2, g.mono fun _ _ q => q.mono hp⟩
end TQ1
end
section
/-! ===== one law an instruction, over the small machine ===== -/
section TQ2
variable {l : Launch} {M : tq_M} {d bc bs : Nat} {Q : tq_R → tq_H → Prop} {pc : Nat} {L : List (Nat × Value)} {S : List Value} {h : tq_H}
theorem tq_iadd (hd : decode M.2.1 pc = .ok (.iadd, 1)) {x y : Int32} (k : tq_W l M d bc bs Q (pc + 1) L (.int (x + y) :: S) h) : tq_W l M d bc bs Q pc L (.int y :: .int x :: S) h := by
  intro p e R s m args below meth c D cA A ad0 mc ms X H locs cells slots ws ls S' Y hc hs
  obtain ⟨_, rfl, Y1⟩ := tq_popI Y
  obtain ⟨_, rfl, Y2⟩ := tq_popI Y1
  exact lv_iadd X.1 X.2.1 hd (k X (tq_psh Y2 rfl) hc hs)
theorem tq_isub (hd : decode M.2.1 pc = .ok (.isub, 1)) {x y : Int32} (k : tq_W l M d bc bs Q (pc + 1) L (.int (x - y) :: S) h) : tq_W l M d bc bs Q pc L (.int y :: .int x :: S) h := by
  intro p e R s m args below meth c D cA A ad0 mc ms X H locs cells slots ws ls S' Y hc hs
  obtain ⟨_, rfl, Y1⟩ := tq_popI Y
  obtain ⟨_, rfl, Y2⟩ := tq_popI Y1
  exact lv_isub X.1 X.2.1 hd (k X (tq_psh Y2 rfl) hc hs)
theorem tq_imul (hd : decode M.2.1 pc = .ok (.imul, 1)) {x y : Int32} (k : tq_W l M d bc bs Q (pc + 1) L (.int (x * y) :: S) h) : tq_W l M d bc bs Q pc L (.int y :: .int x :: S) h := by
  intro p e R s m args below meth c D cA A ad0 mc ms X H locs cells slots ws ls S' Y hc hs
  obtain ⟨_, rfl, Y1⟩ := tq_popI Y
  obtain ⟨_, rfl, Y2⟩ := tq_popI Y1
  exact lv_imul X.1 X.2.1 hd (k X (tq_psh Y2 rfl) hc hs)
theorem tq_iand (hd : decode M.2.1 pc = .ok (.iand, 1)) {x y : Int32} (k : tq_W l M d bc bs Q (pc + 1) L (.int (x &&& y) :: S) h) : tq_W l M d bc bs Q pc L (.int y :: .int x :: S) h := by
  intro p e R s m args below meth c D cA A ad0 mc ms X H locs cells slots ws ls S' Y hc hs
  obtain ⟨_, rfl, Y1⟩ := tq_popI Y
  obtain ⟨_, rfl, Y2⟩ := tq_popI Y1
  exact lv_iand X.1 X.2.1 hd (k X (tq_psh Y2 rfl) hc hs)
theorem tq_ior (hd : decode M.2.1 pc = .ok (.ior, 1)) {x y : Int32} (k : tq_W l M d bc bs Q (pc + 1) L (.int (x ||| y) :: S) h) : tq_W l M d bc bs Q pc L (.int y :: .int x :: S) h := by
  intro p e R s m args below meth c D cA A ad0 mc ms X H locs cells slots ws ls S' Y hc hs
  obtain ⟨_, rfl, Y1⟩ := tq_popI Y
  obtain ⟨_, rfl, Y2⟩ := tq_popI Y1
  exact lv_ior X.1 X.2.1 hd (k X (tq_psh Y2 rfl) hc hs)
theorem tq_ixor (hd : decode M.2.1 pc = .ok (.ixor, 1)) {x y : Int32} (k : tq_W l M d bc bs Q (pc + 1) L (.int (x ^^^ y) :: S) h) : tq_W l M d bc bs Q pc L (.int y :: .int x :: S) h := by
  intro p e R s m args below meth c D cA A ad0 mc ms X H locs cells slots ws ls S' Y hc hs
  obtain ⟨_, rfl, Y1⟩ := tq_popI Y
  obtain ⟨_, rfl, Y2⟩ := tq_popI Y1
  exact lv_ixor X.1 X.2.1 hd (k X (tq_psh Y2 rfl) hc hs)
theorem tq_ishl (hd : decode M.2.1 pc = .ok (.ishl, 1)) {x y : Int32} (k : tq_W l M d bc bs Q (pc + 1) L (.int (x <<< (y &&& 31)) :: S) h) : tq_W l M d bc bs Q pc L (.int y :: .int x :: S) h := by
  intro p e R s m args below meth c D cA A ad0 mc ms X H locs cells slots ws ls S' Y hc hs
  obtain ⟨_, rfl, Y1⟩ := tq_popI Y
  obtain ⟨_, rfl, Y2⟩ := tq_popI Y1
  exact lv_ishl X.1 X.2.1 hd (k X (tq_psh Y2 rfl) hc hs)
theorem tq_ishr (hd : decode M.2.1 pc = .ok (.ishr, 1)) {x y : Int32} (k : tq_W l M d bc bs Q (pc + 1) L (.int (x >>> (y &&& 31)) :: S) h) : tq_W l M d bc bs Q pc L (.int y :: .int x :: S) h := by
  intro p e R s m args below meth c D cA A ad0 mc ms X H locs cells slots ws ls S' Y hc hs
  obtain ⟨_, rfl, Y1⟩ := tq_popI Y
  obtain ⟨_, rfl, Y2⟩ := tq_popI Y1
  exact lv_ishr X.1 X.2.1 hd (k X (tq_psh Y2 rfl) hc hs)
theorem tq_idiv (hd : decode M.2.1 pc = .ok (.idiv, 1)) {x y : Int32} (hne : ¬ y = 0) (k : tq_W l M d bc bs Q (pc + 1) L (.int (x / y) :: S) h) : tq_W l M d bc bs Q pc L (.int y :: .int x :: S) h := by
  intro p e R s m args below meth c D cA A ad0 mc ms X H locs cells slots ws ls S' Y hc hs
  obtain ⟨_, rfl, Y1⟩ := tq_popI Y
  obtain ⟨_, rfl, Y2⟩ := tq_popI Y1
  exact lv_idiv X.1 X.2.1 hd hne (k X (tq_psh Y2 rfl) hc hs)
theorem tq_irem (hd : decode M.2.1 pc = .ok (.irem, 1)) {x y : Int32} (hne : ¬ y = 0) (k : tq_W l M d bc bs Q (pc + 1) L (.int (x - x / y * y) :: S) h) : tq_W l M d bc bs Q pc L (.int y :: .int x :: S) h := by
  intro p e R s m args below meth c D cA A ad0 mc ms X H locs cells slots ws ls S' Y hc hs
  obtain ⟨_, rfl, Y1⟩ := tq_popI Y
  obtain ⟨_, rfl, Y2⟩ := tq_popI Y1
  exact lv_irem X.1 X.2.1 hd hne (k X (tq_psh Y2 rfl) hc hs)
theorem tq_ineg (hd : decode M.2.1 pc = .ok (.ineg, 1)) {x : Int32} (k : tq_W l M d bc bs Q (pc + 1) L (.int (-x) :: S) h) : tq_W l M d bc bs Q pc L (.int x :: S) h := by
  intro p e R s m args below meth c D cA A ad0 mc ms X H locs cells slots ws ls S' Y hc hs
  obtain ⟨_, rfl, Y1⟩ := tq_popI Y
  exact lv_ineg X.1 X.2.1 hd (k X (tq_psh Y1 rfl) hc hs)
theorem tq_ladd (hd : decode M.2.1 pc = .ok (.ladd, 1)) {x y : Int64} (k : tq_W l M d bc bs Q (pc + 1) L (.long (x + y) :: S) h) : tq_W l M d bc bs Q pc L (.long y :: .long x :: S) h := by
  intro p e R s m args below meth c D cA A ad0 mc ms X H locs cells slots ws ls S' Y hc hs
  obtain ⟨_, rfl, Y1⟩ := tq_popL Y
  obtain ⟨_, rfl, Y2⟩ := tq_popL Y1
  exact lv_ladd X.1 X.2.1 hd (k X (tq_psh Y2 rfl) hc hs)
theorem tq_lsub (hd : decode M.2.1 pc = .ok (.lsub, 1)) {x y : Int64} (k : tq_W l M d bc bs Q (pc + 1) L (.long (x - y) :: S) h) : tq_W l M d bc bs Q pc L (.long y :: .long x :: S) h := by
  intro p e R s m args below meth c D cA A ad0 mc ms X H locs cells slots ws ls S' Y hc hs
  obtain ⟨_, rfl, Y1⟩ := tq_popL Y
  obtain ⟨_, rfl, Y2⟩ := tq_popL Y1
  exact lv_lsub X.1 X.2.1 hd (k X (tq_psh Y2 rfl) hc hs)
theorem tq_lmul (hd : decode M.2.1 pc = .ok (.lmul, 1)) {x y : Int64} (k : tq_W l M d bc bs Q (pc + 1) L (.long (x * y) :: S) h) : tq_W l M d bc bs Q pc L (.long y :: .long x :: S) h := by
  intro p e R s m args below meth c D cA A ad0 mc ms X H locs cells slots ws ls S' Y hc hs
  obtain ⟨_, rfl, Y1⟩ := tq_popL Y
  obtain ⟨_, rfl, Y2⟩ := tq_popL Y1
  exact lv_lmul X.1 X.2.1 hd (k X (tq_psh Y2 rfl) hc hs)
theorem tq_land (hd : decode M.2.1 pc = .ok (.land, 1)) {x y : Int64} (k : tq_W l M d bc bs Q (pc + 1) L (.long (x &&& y) :: S) h) : tq_W l M d bc bs Q pc L (.long y :: .long x :: S) h := by
  intro p e R s m args below meth c D cA A ad0 mc ms X H locs cells slots ws ls S' Y hc hs
  obtain ⟨_, rfl, Y1⟩ := tq_popL Y
  obtain ⟨_, rfl, Y2⟩ := tq_popL Y1
  exact lv_land X.1 X.2.1 hd (k X (tq_psh Y2 rfl) hc hs)
theorem tq_lor (hd : decode M.2.1 pc = .ok (.lor, 1)) {x y : Int64} (k : tq_W l M d bc bs Q (pc + 1) L (.long (x ||| y) :: S) h) : tq_W l M d bc bs Q pc L (.long y :: .long x :: S) h := by
  intro p e R s m args below meth c D cA A ad0 mc ms X H locs cells slots ws ls S' Y hc hs
  obtain ⟨_, rfl, Y1⟩ := tq_popL Y
  obtain ⟨_, rfl, Y2⟩ := tq_popL Y1
  exact lv_lor X.1 X.2.1 hd (k X (tq_psh Y2 rfl) hc hs)
theorem tq_lxor (hd : decode M.2.1 pc = .ok (.lxor, 1)) {x y : Int64} (k : tq_W l M d bc bs Q (pc + 1) L (.long (x ^^^ y) :: S) h) : tq_W l M d bc bs Q pc L (.long y :: .long x :: S) h := by
  intro p e R s m args below meth c D cA A ad0 mc ms X H locs cells slots ws ls S' Y hc hs
  obtain ⟨_, rfl, Y1⟩ := tq_popL Y
  obtain ⟨_, rfl, Y2⟩ := tq_popL Y1
  exact lv_lxor X.1 X.2.1 hd (k X (tq_psh Y2 rfl) hc hs)
theorem tq_lneg (hd : decode M.2.1 pc = .ok (.lneg, 1)) {x : Int64} (k : tq_W l M d bc bs Q (pc + 1) L (.long (-x) :: S) h) : tq_W l M d bc bs Q pc L (.long x :: S) h := by
  intro p e R s m args below meth c D cA A ad0 mc ms X H locs cells slots ws ls S' Y hc hs
  obtain ⟨_, rfl, Y1⟩ := tq_popL Y
  exact lv_lneg X.1 X.2.1 hd (k X (tq_psh Y1 rfl) hc hs)
theorem tq_lshl (hd : decode M.2.1 pc = .ok (.lshl, 1)) {x : Int64} {y : Int32} (k : tq_W l M d bc bs Q (pc + 1) L (.long (x <<< (y.toInt64 &&& 63)) :: S) h) : tq_W l M d bc bs Q pc L (.int y :: .long x :: S) h := by
  intro p e R s m args below meth c D cA A ad0 mc ms X H locs cells slots ws ls S' Y hc hs
  obtain ⟨_, rfl, Y1⟩ := tq_popI Y
  obtain ⟨_, rfl, Y2⟩ := tq_popL Y1
  exact lv_lshl X.1 X.2.1 hd rfl (k X (tq_psh Y2 rfl) hc hs)
theorem tq_lshr (hd : decode M.2.1 pc = .ok (.lshr, 1)) {x : Int64} {y : Int32} (k : tq_W l M d bc bs Q (pc + 1) L (.long (x >>> (y.toInt64 &&& 63)) :: S) h) : tq_W l M d bc bs Q pc L (.int y :: .long x :: S) h := by
  intro p e R s m args below meth c D cA A ad0 mc ms X H locs cells slots ws ls S' Y hc hs
  obtain ⟨_, rfl, Y1⟩ := tq_popI Y
  obtain ⟨_, rfl, Y2⟩ := tq_popL Y1
  exact lv_lshr X.1 X.2.1 hd rfl (k X (tq_psh Y2 rfl) hc hs)
theorem tq_lushr (hd : decode M.2.1 pc = .ok (.lushr, 1)) {x : Int64} {y : Int32} (k : tq_W l M d bc bs Q (pc + 1) L (.long ((x.toUInt64 >>> (y.toInt64.toUInt64 &&& Int64.toUInt64 63)).toInt64) :: S) h) : tq_W l M d bc bs Q pc L (.int y :: .long x :: S) h := by
  intro p e R s m args below meth c D cA A ad0 mc ms X H locs cells slots ws ls S' Y hc hs
  obtain ⟨_, rfl, Y1⟩ := tq_popI Y
  obtain ⟨_, rfl, Y2⟩ := tq_popL Y1
  exact lv_lushr X.1 X.2.1 hd rfl (k X (tq_psh Y2 rfl) hc hs)
theorem tq_lcmp (hd : decode M.2.1 pc = .ok (.lcmp, 1)) {x y : Int64} (k : tq_W l M d bc bs Q (pc + 1) L (.int (lg_cmp x y) :: S) h) : tq_W l M d bc bs Q pc L (.long y :: .long x :: S) h := by
  intro p e R s m args below meth c D cA A ad0 mc ms X H locs cells slots ws ls S' Y hc hs
  obtain ⟨_, rfl, Y1⟩ := tq_popL Y
  obtain ⟨_, rfl, Y2⟩ := tq_popL Y1
  exact W.lcmp X.1 X.2.1 hd (k X (tq_psh Y2 rfl) hc hs)
theorem tq_i2l (hd : decode M.2.1 pc = .ok (.i2l, 1)) {x : Int32} (k : tq_W l M d bc bs Q (pc + 1) L (.long x.toInt64 :: S) h) : tq_W l M d bc bs Q pc L (.int x :: S) h := by
  intro p e R s m args below meth c D cA A ad0 mc ms X H locs cells slots ws ls S' Y hc hs
  obtain ⟨_, rfl, Y1⟩ := tq_popI Y
  exact lv_i2l X.1 X.2.1 hd rfl (k X (tq_psh Y1 rfl) hc hs)
theorem tq_l2i (hd : decode M.2.1 pc = .ok (.l2i, 1)) {x : Int64} (k : tq_W l M d bc bs Q (pc + 1) L (.int x.toInt32 :: S) h) : tq_W l M d bc bs Q pc L (.long x :: S) h := by
  intro p e R s m args below meth c D cA A ad0 mc ms X H locs cells slots ws ls S' Y hc hs
  obtain ⟨_, rfl, Y1⟩ := tq_popL Y
  exact lv_l2i X.1 X.2.1 hd rfl (k X (tq_psh Y1 rfl) hc hs)
theorem tq_iconst {n : Int} (hd : decode M.2.1 pc = .ok (.iconst n, 1)) {v : Int32} (hv : Int32.ofInt n = v) (k : tq_W l M d bc bs Q (pc + 1) L (.int v :: S) h) : tq_W l M d bc bs Q pc L (S) h := by
  intro p e R s m args below meth c D cA A ad0 mc ms X H locs cells slots ws ls S' Y hc hs
  exact lv_iconst X.1 X.2.1 hd hv (k X (tq_psh Y rfl) hc hs)
theorem tq_bipush {n : Int} (hd : decode M.2.1 pc = .ok (.bipush n, 2)) {v : Int32} (hv : (Int8.ofInt n).toInt32 = v) (k : tq_W l M d bc bs Q (pc + 2) L (.int v :: S) h) : tq_W l M d bc bs Q pc L (S) h := by
  intro p e R s m args below meth c D cA A ad0 mc ms X H locs cells slots ws ls S' Y hc hs
  exact lv_bipush X.1 X.2.1 hd hv (k X (tq_psh Y rfl) hc hs)
theorem tq_sipush {n : Int} (hd : decode M.2.1 pc = .ok (.sipush n, 3)) {v : Int32} (hv : (Int16.ofInt n).toInt32 = v) (k : tq_W l M d bc bs Q (pc + 3) L (.int v :: S) h) : tq_W l M d bc bs Q pc L (S) h := by
  intro p e R s m args below meth c D cA A ad0 mc ms X H locs cells slots ws ls S' Y hc hs
  exact lv_sipush X.1 X.2.1 hd hv (k X (tq_psh Y rfl) hc hs)
theorem tq_lconst {n : Fin 2} (hd : decode M.2.1 pc = .ok (.lconst n, 1)) {v : Int64} (hv : Int64.ofNat (n : Nat) = v) (k : tq_W l M d bc bs Q (pc + 1) L (.long v :: S) h) : tq_W l M d bc bs Q pc L (S) h := by
  intro p e R s m args below meth c D cA A ad0 mc ms X H locs cells slots ws ls S' Y hc hs
  exact lv_lconst X.1 X.2.1 hd hv (k X (tq_psh Y rfl) hc hs)
theorem tq_null (hd : decode M.2.1 pc = .ok (.aconst_null, 1)) (k : tq_W l M d bc bs Q (pc + 1) L (.null :: S) h) : tq_W l M d bc bs Q pc L (S) h := by
  intro p e R s m args below meth c D cA A ad0 mc ms X H locs cells slots ws ls S' Y hc hs
  exact lv_null X.1 X.2.1 hd (k X (tq_psh Y rfl) hc hs)
theorem tq_ldc2 {i : Nat} (hd : decode M.2.1 pc = .ok (.ldc2_w i, 3)) {v : Int64} (hw : Cond.constantLong M.1 i v ∈ tq_G) (k : tq_W l M d bc bs Q (pc + 3) L (.long v :: S) h) : tq_W l M d bc bs Q pc L (S) h := by
  intro p e R s m args below meth c D cA A ad0 mc ms X H locs cells slots ws ls S' Y hc hs
  exact lv_ldc2 X.1 X.2.1 X.2.2.2.2.2.1 (X.2.2.2.2.2.2.1 _ hw) hd (k X (tq_psh Y rfl) hc hs)
theorem tq_iload_n {n : Fin 4} (hd : decode M.2.1 pc = .ok (.iload_n n, 1)) {x : Int32} (hl : L.lookup (n : Nat) = some (.int x)) (k : tq_W l M d bc bs Q (pc + 1) L (.int x :: S) h) : tq_W l M d bc bs Q pc L (S) h := by
  intro p e R s m args below meth c D cA A ad0 mc ms X H locs cells slots ws ls S' Y hc hs
  obtain ⟨w, h1, h2⟩ := tq_loc Y hl
  cases (show w = .int x from h2)
  exact lv_iload_n X.1 X.2.1 hd rfl h1 (k X (tq_psh Y rfl) hc hs)
theorem tq_iload {i : Nat} (hd : decode M.2.1 pc = .ok (.iload i, 2)) {x : Int32} (hl : L.lookup i = some (.int x)) (k : tq_W l M d bc bs Q (pc + 2) L (.int x :: S) h) : tq_W l M d bc bs Q pc L (S) h := by
  intro p e R s m args below meth c D cA A ad0 mc ms X H locs cells slots ws ls S' Y hc hs
  obtain ⟨w, h1, h2⟩ := tq_loc Y hl
  cases (show w = .int x from h2)
  exact lv_iload X.1 X.2.1 hd h1 (k X (tq_psh Y rfl) hc hs)
theorem tq_lload_n {n : Fin 4} (hd : decode M.2.1 pc = .ok (.lload_n n, 1)) {x : Int64} (hl : L.lookup (n : Nat) = some (.long x)) (k : tq_W l M d bc bs Q (pc + 1) L (.long x :: S) h) : tq_W l M d bc bs Q pc L (S) h := by
  intro p e R s m args below meth c D cA A ad0 mc ms X H locs cells slots ws ls S' Y hc hs
  obtain ⟨w, h1, h2⟩ := tq_loc Y hl
  cases (show w = .long x from h2)
  exact lv_lload_n X.1 X.2.1 hd rfl h1 (k X (tq_psh Y rfl) hc hs)
theorem tq_lload {i : Nat} (hd : decode M.2.1 pc = .ok (.lload i, 2)) {x : Int64} (hl : L.lookup i = some (.long x)) (k : tq_W l M d bc bs Q (pc + 2) L (.long x :: S) h) : tq_W l M d bc bs Q pc L (S) h := by
  intro p e R s m args below meth c D cA A ad0 mc ms X H locs cells slots ws ls S' Y hc hs
  obtain ⟨w, h1, h2⟩ := tq_loc Y hl
  cases (show w = .long x from h2)
  exact lv_lload X.1 X.2.1 hd h1 (k X (tq_psh Y rfl) hc hs)
theorem tq_aload_n {n : Fin 4} (hd : decode M.2.1 pc = .ok (.aload_n n, 1)) {x : Nat} (hl : L.lookup (n : Nat) = some (.ref x)) (k : tq_W l M d bc bs Q (pc + 1) L (.ref x :: S) h) : tq_W l M d bc bs Q pc L (S) h := by
  intro p e R s m args below meth c D cA A ad0 mc ms X H locs cells slots ws ls S' Y hc hs
  obtain ⟨w, h1, a, h2, h3⟩ := tq_loc Y hl
  cases h3
  exact lv_aload_n X.1 X.2.1 hd rfl h1 (k X (tq_psh Y ⟨a, h2, rfl⟩) hc hs)
theorem tq_aload {i : Nat} (hd : decode M.2.1 pc = .ok (.aload i, 2)) {x : Nat} (hl : L.lookup i = some (.ref x)) (k : tq_W l M d bc bs Q (pc + 2) L (.ref x :: S) h) : tq_W l M d bc bs Q pc L (S) h := by
  intro p e R s m args below meth c D cA A ad0 mc ms X H locs cells slots ws ls S' Y hc hs
  obtain ⟨w, h1, a, h2, h3⟩ := tq_loc Y hl
  cases h3
  exact lv_aload X.1 X.2.1 hd h1 (k X (tq_psh Y ⟨a, h2, rfl⟩) hc hs)
theorem tq_istore_n {n : Fin 4} {i : Nat} (hi : (n : Nat) = i) (hd : decode M.2.1 pc = .ok (.istore_n n, 1)) {x : Int32} {L2 : List (Nat × Value)} (hn : i < M.2.2.1) (hL : tq_st1 L i (.int x) = L2) (k : tq_W l M d bc bs Q (pc + 1) L2 (S) h) : tq_W l M d bc bs Q pc L (.int x :: S) h := by
  intro p e R s m args below meth c D cA A ad0 mc ms X H locs cells slots ws ls S' Y hc hs
  obtain ⟨_, rfl, Y1⟩ := tq_popI Y
  subst hL
  obtain ⟨L', h1, h2⟩ := Y1.2.2.2.2.2.1
  exact lv_istore_n X.1 X.2.1 hd hi h1 hn rfl (fun ls2 q => k X (tq_dyl Y1 ⟨_, q, tq_al_st1 h2 i rfl⟩) hc hs)
theorem tq_istore {i : Nat} (hd : decode M.2.1 pc = .ok (.istore i, 2)) {x : Int32} {L2 : List (Nat × Value)} (hn : i < M.2.2.1) (hL : tq_st1 L i (.int x) = L2) (k : tq_W l M d bc bs Q (pc + 2) L2 (S) h) : tq_W l M d bc bs Q pc L (.int x :: S) h := by
  intro p e R s m args below meth c D cA A ad0 mc ms X H locs cells slots ws ls S' Y hc hs
  obtain ⟨_, rfl, Y1⟩ := tq_popI Y
  subst hL
  obtain ⟨L', h1, h2⟩ := Y1.2.2.2.2.2.1
  exact lv_istore X.1 X.2.1 hd h1 hn rfl (fun ls2 q => k X (tq_dyl Y1 ⟨_, q, tq_al_st1 h2 i rfl⟩) hc hs)
theorem tq_lstore_n {n : Fin 4} {i : Nat} (hi : (n : Nat) = i) (hd : decode M.2.1 pc = .ok (.lstore_n n, 1)) {x : Int64} {L2 : List (Nat × Value)} (hn : i + 1 < M.2.2.1) (hL : tq_st2 L i (.long x) = L2) (k : tq_W l M d bc bs Q (pc + 1) L2 (S) h) : tq_W l M d bc bs Q pc L (.long x :: S) h := by
  intro p e R s m args below meth c D cA A ad0 mc ms X H locs cells slots ws ls S' Y hc hs
  obtain ⟨_, rfl, Y1⟩ := tq_popL Y
  subst hL
  obtain ⟨L', h1, h2⟩ := Y1.2.2.2.2.2.1
  exact lv_lstore_n X.1 X.2.1 hd hi h1 hn rfl (fun ls2 q => k X (tq_dyl Y1 ⟨_, q, tq_al_st2 h2 i rfl⟩) hc hs)
theorem tq_lstore {i : Nat} (hd : decode M.2.1 pc = .ok (.lstore i, 2)) {x : Int64} {L2 : List (Nat × Value)} (hn : i + 1 < M.2.2.1) (hL : tq_st2 L i (.long x) = L2) (k : tq_W l M d bc bs Q (pc + 2) L2 (S) h) : tq_W l M d bc bs Q pc L (.long x :: S) h := by
  intro p e R s m args below meth c D cA A ad0 mc ms X H locs cells slots ws ls S' Y hc hs
  obtain ⟨_, rfl, Y1⟩ := tq_popL Y
  subst hL
  obtain ⟨L', h1, h2⟩ := Y1.2.2.2.2.2.1
  exact lv_lstore X.1 X.2.1 hd h1 hn rfl (fun ls2 q => k X (tq_dyl Y1 ⟨_, q, tq_al_st2 h2 i rfl⟩) hc hs)
theorem tq_astore_n {n : Fin 4} {i : Nat} (hi : (n : Nat) = i) (hd : decode M.2.1 pc = .ok (.astore_n n, 1)) {x : Nat} {L2 : List (Nat × Value)} (hn : i < M.2.2.1) (hL : tq_st1 L i (.ref x) = L2) (k : tq_W l M d bc bs Q (pc + 1) L2 (S) h) : tq_W l M d bc bs Q pc L (.ref x :: S) h := by
  intro p e R s m args below meth c D cA A ad0 mc ms X H locs cells slots ws ls S' Y hc hs
  obtain ⟨w, S1, rfl, ⟨a, h3, rfl⟩, Y1⟩ := tq_pop Y
  subst hL
  obtain ⟨L', h1, h2⟩ := Y1.2.2.2.2.2.1
  exact lv_astore_n X.1 X.2.1 hd hi h1 hn rfl (fun ls2 q => k X (tq_dyl Y1 ⟨_, q, tq_al_st1 h2 i ⟨a, h3, rfl⟩⟩) hc hs)
theorem tq_xstore_n {n : Fin 4} {i : Nat} (hi : (n : Nat) = i) (hd : decode M.2.1 pc = .ok (.astore_n n, 1)) {x : UInt32} {L2 : List (Nat × Value)} (hn : i < M.2.2.1) (hL : tq_st1 L i (.float x) = L2) (k : tq_W l M d bc bs Q (pc + 1) L2 (S) h) : tq_W l M d bc bs Q pc L (.float x :: S) h := by
  intro p e R s m args below meth c D cA A ad0 mc ms X H locs cells slots ws ls S' Y hc hs
  obtain ⟨w, S1, rfl, ⟨a, rfl⟩, Y1⟩ := tq_pop Y
  subst hL
  obtain ⟨L', h1, h2⟩ := Y1.2.2.2.2.2.1
  exact lv_astore_n X.1 X.2.1 hd hi h1 hn rfl (fun ls2 q => k X (tq_dyl Y1 ⟨_, q, tq_al_st1 h2 i ⟨a, rfl⟩⟩) hc hs)
theorem tq_astore {i : Nat} (hd : decode M.2.1 pc = .ok (.astore i, 2)) {x : Nat} {L2 : List (Nat × Value)} (hn : i < M.2.2.1) (hL : tq_st1 L i (.ref x) = L2) (k : tq_W l M d bc bs Q (pc + 2) L2 (S) h) : tq_W l M d bc bs Q pc L (.ref x :: S) h := by
  intro p e R s m args below meth c D cA A ad0 mc ms X H locs cells slots ws ls S' Y hc hs
  obtain ⟨w, S1, rfl, ⟨a, h3, rfl⟩, Y1⟩ := tq_pop Y
  subst hL
  obtain ⟨L', h1, h2⟩ := Y1.2.2.2.2.2.1
  exact lv_astore X.1 X.2.1 hd h1 hn rfl (fun ls2 q => k X (tq_dyl Y1 ⟨_, q, tq_al_st1 h2 i ⟨a, h3, rfl⟩⟩) hc hs)
theorem tq_xstore {i : Nat} (hd : decode M.2.1 pc = .ok (.astore i, 2)) {x : UInt32} {L2 : List (Nat × Value)} (hn : i < M.2.2.1) (hL : tq_st1 L i (.float x) = L2) (k : tq_W l M d bc bs Q (pc + 2) L2 (S) h) : tq_W l M d bc bs Q pc L (.float x :: S) h := by
  intro p e R s m args below meth c D cA A ad0 mc ms X H locs cells slots ws ls S' Y hc hs
  obtain ⟨w, S1, rfl, ⟨a, rfl⟩, Y1⟩ := tq_pop Y
  subst hL
  obtain ⟨L', h1, h2⟩ := Y1.2.2.2.2.2.1
  exact lv_astore X.1 X.2.1 hd h1 hn rfl (fun ls2 q => k X (tq_dyl Y1 ⟨_, q, tq_al_st1 h2 i ⟨a, rfl⟩⟩) hc hs)
theorem tq_iinc {i : Nat} {n : Int} (hd : decode M.2.1 pc = .ok (.iinc i n, 3)) {x v : Int32} {L2 : List (Nat × Value)} (hl : L.lookup i = some (.int x)) (hv : x + Int32.ofInt n = v) (hn : i < M.2.2.1) (hL : tq_st1 L i (.int v) = L2) (k : tq_W l M d bc bs Q (pc + 3) L2 (S) h) : tq_W l M d bc bs Q pc L (S) h := by
  intro p e R s m args below meth c D cA A ad0 mc ms X H locs cells slots ws ls S' Y hc hs
  subst hL
  obtain ⟨L', h1, h2⟩ := Y.2.2.2.2.2.1
  obtain ⟨v', h3, h4⟩ := tq_al_at h2 hl
  cases (show v' = .int x from h4)
  obtain ⟨q, hq⟩ := List.getElem?_of_mem h3
  exact lv_iinc X.1 X.2.1 hd h1 hq hv hn rfl (fun ls2 q => k X (tq_dyl Y ⟨_, q, tq_al_st1 h2 i rfl⟩) hc hs)
theorem tq_dup (hd : decode M.2.1 pc = .ok (.dup, 1)) {v : Value} (hv : v.category = 1) (k : tq_W l M d bc bs Q (pc + 1) L (v :: v :: S) h) : tq_W l M d bc bs Q pc L (v :: S) h := by
  intro p e R s m args below meth c D cA A ad0 mc ms X H locs cells slots ws ls S' Y hc hs
  obtain ⟨w, S1, rfl, r, Y1⟩ := tq_pop Y
  exact lv_dup X.1 X.2.1 hd (r.cat.symm.trans hv) (k X (tq_psh (tq_psh Y1 r) r) hc hs)
theorem tq_dup2 (hd : decode M.2.1 pc = .ok (.dup2, 1)) {v u : Value} (hv : v.category = 1) (hu : u.category = 1) (k : tq_W l M d bc bs Q (pc + 1) L (v :: u :: v :: u :: S) h) : tq_W l M d bc bs Q pc L (v :: u :: S) h := by
  intro p e R s m args below meth c D cA A ad0 mc ms X H locs cells slots ws ls S' Y hc hs
  obtain ⟨w, S1, rfl, r, Y1⟩ := tq_pop Y
  obtain ⟨w2, S2, rfl, r2, Y2⟩ := tq_pop Y1
  exact lv_dup2_11 X.1 X.2.1 hd (r.cat.symm.trans hv) (r2.cat.symm.trans hu) (k X (tq_psh (tq_psh (tq_psh (tq_psh Y2 r2) r) r2) r) hc hs)
theorem tq_pop_ (hd : decode M.2.1 pc = .ok (.pop, 1)) {v : Value} (hv : v.category = 1) (k : tq_W l M d bc bs Q (pc + 1) L (S) h) : tq_W l M d bc bs Q pc L (v :: S) h := by
  intro p e R s m args below meth c D cA A ad0 mc ms X H locs cells slots ws ls S' Y hc hs
  obtain ⟨w, S1, rfl, r, Y1⟩ := tq_pop Y
  exact lv_pop X.1 X.2.1 hd (r.cat.symm.trans hv) (k X Y1 hc hs)
theorem tq_if_eq {off : Int} {tgt : Nat} (hd : decode M.2.1 pc = .ok (.ifCond .eq off, 3)) (ht : (pc : Int) + off = (tgt : Int)) {x : Int32} (kt : x = 0 → tq_W l M d bc bs Q tgt L S h) (kf : ¬ (x = 0) → tq_W l M d bc bs Q (pc + 3) L S h) : tq_W l M d bc bs Q pc L (.int x :: S) h := by
  intro p e R s m args below meth c D cA A ad0 mc ms X H locs cells slots ws ls S' Y hc hs
  obtain ⟨_, rfl, Y1⟩ := tq_popI Y
  exact lv_if_eq X.1 X.2.1 hd ht (fun q => kt q X Y1 hc hs) (fun q => kf q X Y1 hc hs)
theorem tq_icmp_eq {off : Int} {tgt : Nat} (hd : decode M.2.1 pc = .ok (.if_icmp .eq off, 3)) (ht : (pc : Int) + off = (tgt : Int)) {x y : Int32} (kt : x = y → tq_W l M d bc bs Q tgt L S h) (kf : ¬ (x = y) → tq_W l M d bc bs Q (pc + 3) L S h) : tq_W l M d bc bs Q pc L (.int y :: .int x :: S) h := by
  intro p e R s m args below meth c D cA A ad0 mc ms X H locs cells slots ws ls S' Y hc hs
  obtain ⟨_, rfl, Y1⟩ := tq_popI Y
  obtain ⟨_, rfl, Y2⟩ := tq_popI Y1
  exact lv_icmp_eq X.1 X.2.1 hd ht (fun q => kt q X Y2 hc hs) (fun q => kf q X Y2 hc hs)
theorem tq_if_ne {off : Int} {tgt : Nat} (hd : decode M.2.1 pc = .ok (.ifCond .ne off, 3)) (ht : (pc : Int) + off = (tgt : Int)) {x : Int32} (kt : ¬ x = 0 → tq_W l M d bc bs Q tgt L S h) (kf : x = 0 → tq_W l M d bc bs Q (pc + 3) L S h) : tq_W l M d bc bs Q pc L (.int x :: S) h := by
  intro p e R s m args below meth c D cA A ad0 mc ms X H locs cells slots ws ls S' Y hc hs
  obtain ⟨_, rfl, Y1⟩ := tq_popI Y
  exact lv_if_ne X.1 X.2.1 hd ht (fun q => kt q X Y1 hc hs) (fun q => kf q X Y1 hc hs)
theorem tq_icmp_ne {off : Int} {tgt : Nat} (hd : decode M.2.1 pc = .ok (.if_icmp .ne off, 3)) (ht : (pc : Int) + off = (tgt : Int)) {x y : Int32} (kt : ¬ x = y → tq_W l M d bc bs Q tgt L S h) (kf : x = y → tq_W l M d bc bs Q (pc + 3) L S h) : tq_W l M d bc bs Q pc L (.int y :: .int x :: S) h := by
  intro p e R s m args below meth c D cA A ad0 mc ms X H locs cells slots ws ls S' Y hc hs
  obtain ⟨_, rfl, Y1⟩ := tq_popI Y
  obtain ⟨_, rfl, Y2⟩ := tq_popI Y1
  exact lv_icmp_ne X.1 X.2.1 hd ht (fun q => kt q X Y2 hc hs) (fun q => kf q X Y2 hc hs)
theorem tq_if_lt {off : Int} {tgt : Nat} (hd : decode M.2.1 pc = .ok (.ifCond .lt off, 3)) (ht : (pc : Int) + off = (tgt : Int)) {x : Int32} (kt : x < 0 → tq_W l M d bc bs Q tgt L S h) (kf : ¬ (x < 0) → tq_W l M d bc bs Q (pc + 3) L S h) : tq_W l M d bc bs Q pc L (.int x :: S) h := by
  intro p e R s m args below meth c D cA A ad0 mc ms X H locs cells slots ws ls S' Y hc hs
  obtain ⟨_, rfl, Y1⟩ := tq_popI Y
  exact lv_if_lt X.1 X.2.1 hd ht (fun q => kt q X Y1 hc hs) (fun q => kf q X Y1 hc hs)
theorem tq_icmp_lt {off : Int} {tgt : Nat} (hd : decode M.2.1 pc = .ok (.if_icmp .lt off, 3)) (ht : (pc : Int) + off = (tgt : Int)) {x y : Int32} (kt : x < y → tq_W l M d bc bs Q tgt L S h) (kf : ¬ (x < y) → tq_W l M d bc bs Q (pc + 3) L S h) : tq_W l M d bc bs Q pc L (.int y :: .int x :: S) h := by
  intro p e R s m args below meth c D cA A ad0 mc ms X H locs cells slots ws ls S' Y hc hs
  obtain ⟨_, rfl, Y1⟩ := tq_popI Y
  obtain ⟨_, rfl, Y2⟩ := tq_popI Y1
  exact lv_icmp_lt X.1 X.2.1 hd ht (fun q => kt q X Y2 hc hs) (fun q => kf q X Y2 hc hs)
theorem tq_if_ge {off : Int} {tgt : Nat} (hd : decode M.2.1 pc = .ok (.ifCond .ge off, 3)) (ht : (pc : Int) + off = (tgt : Int)) {x : Int32} (kt : 0 ≤ x → tq_W l M d bc bs Q tgt L S h) (kf : ¬ (0 ≤ x) → tq_W l M d bc bs Q (pc + 3) L S h) : tq_W l M d bc bs Q pc L (.int x :: S) h := by
  intro p e R s m args below meth c D cA A ad0 mc ms X H locs cells slots ws ls S' Y hc hs
  obtain ⟨_, rfl, Y1⟩ := tq_popI Y
  exact lv_if_ge X.1 X.2.1 hd ht (fun q => kt q X Y1 hc hs) (fun q => kf q X Y1 hc hs)
theorem tq_icmp_ge {off : Int} {tgt : Nat} (hd : decode M.2.1 pc = .ok (.if_icmp .ge off, 3)) (ht : (pc : Int) + off = (tgt : Int)) {x y : Int32} (kt : y ≤ x → tq_W l M d bc bs Q tgt L S h) (kf : ¬ (y ≤ x) → tq_W l M d bc bs Q (pc + 3) L S h) : tq_W l M d bc bs Q pc L (.int y :: .int x :: S) h := by
  intro p e R s m args below meth c D cA A ad0 mc ms X H locs cells slots ws ls S' Y hc hs
  obtain ⟨_, rfl, Y1⟩ := tq_popI Y
  obtain ⟨_, rfl, Y2⟩ := tq_popI Y1
  exact lv_icmp_ge X.1 X.2.1 hd ht (fun q => kt q X Y2 hc hs) (fun q => kf q X Y2 hc hs)
theorem tq_if_gt {off : Int} {tgt : Nat} (hd : decode M.2.1 pc = .ok (.ifCond .gt off, 3)) (ht : (pc : Int) + off = (tgt : Int)) {x : Int32} (kt : 0 < x → tq_W l M d bc bs Q tgt L S h) (kf : ¬ (0 < x) → tq_W l M d bc bs Q (pc + 3) L S h) : tq_W l M d bc bs Q pc L (.int x :: S) h := by
  intro p e R s m args below meth c D cA A ad0 mc ms X H locs cells slots ws ls S' Y hc hs
  obtain ⟨_, rfl, Y1⟩ := tq_popI Y
  exact lv_if_gt X.1 X.2.1 hd ht (fun q => kt q X Y1 hc hs) (fun q => kf q X Y1 hc hs)
theorem tq_icmp_gt {off : Int} {tgt : Nat} (hd : decode M.2.1 pc = .ok (.if_icmp .gt off, 3)) (ht : (pc : Int) + off = (tgt : Int)) {x y : Int32} (kt : y < x → tq_W l M d bc bs Q tgt L S h) (kf : ¬ (y < x) → tq_W l M d bc bs Q (pc + 3) L S h) : tq_W l M d bc bs Q pc L (.int y :: .int x :: S) h := by
  intro p e R s m args below meth c D cA A ad0 mc ms X H locs cells slots ws ls S' Y hc hs
  obtain ⟨_, rfl, Y1⟩ := tq_popI Y
  obtain ⟨_, rfl, Y2⟩ := tq_popI Y1
  exact lv_icmp_gt X.1 X.2.1 hd ht (fun q => kt q X Y2 hc hs) (fun q => kf q X Y2 hc hs)
theorem tq_if_le {off : Int} {tgt : Nat} (hd : decode M.2.1 pc = .ok (.ifCond .le off, 3)) (ht : (pc : Int) + off = (tgt : Int)) {x : Int32} (kt : x ≤ 0 → tq_W l M d bc bs Q tgt L S h) (kf : ¬ (x ≤ 0) → tq_W l M d bc bs Q (pc + 3) L S h) : tq_W l M d bc bs Q pc L (.int x :: S) h := by
  intro p e R s m args below meth c D cA A ad0 mc ms X H locs cells slots ws ls S' Y hc hs
  obtain ⟨_, rfl, Y1⟩ := tq_popI Y
  exact lv_if_le X.1 X.2.1 hd ht (fun q => kt q X Y1 hc hs) (fun q => kf q X Y1 hc hs)
theorem tq_icmp_le {off : Int} {tgt : Nat} (hd : decode M.2.1 pc = .ok (.if_icmp .le off, 3)) (ht : (pc : Int) + off = (tgt : Int)) {x y : Int32} (kt : x ≤ y → tq_W l M d bc bs Q tgt L S h) (kf : ¬ (x ≤ y) → tq_W l M d bc bs Q (pc + 3) L S h) : tq_W l M d bc bs Q pc L (.int y :: .int x :: S) h := by
  intro p e R s m args below meth c D cA A ad0 mc ms X H locs cells slots ws ls S' Y hc hs
  obtain ⟨_, rfl, Y1⟩ := tq_popI Y
  obtain ⟨_, rfl, Y2⟩ := tq_popI Y1
  exact lv_icmp_le X.1 X.2.1 hd ht (fun q => kt q X Y2 hc hs) (fun q => kf q X Y2 hc hs)
theorem tq_goto {off : Int} {tgt : Nat} (hd : decode M.2.1 pc = .ok (.goto off, 3)) (ht : (pc : Int) + off = (tgt : Int)) (k : tq_W l M d bc bs Q tgt L S h) : tq_W l M d bc bs Q pc L S h := by
  intro p e R s m args below meth c D cA A ad0 mc ms X H locs cells slots ws ls S' Y hc hs
  exact lv_goto X.1 X.2.1 hd ht (k X Y hc hs)
theorem tq_ifnonnull {off : Int} {tgt : Nat} (hd : decode M.2.1 pc = .ok (.ifnonnull off, 3)) (ht : (pc : Int) + off = (tgt : Int)) {x : Nat} (k : tq_W l M d bc bs Q tgt L S h) : tq_W l M d bc bs Q pc L (.ref x :: S) h := by
  intro p e R s m args below meth c D cA A ad0 mc ms X H locs cells slots ws ls S' Y hc hs
  obtain ⟨w, S1, rfl, ⟨a, h3, rfl⟩, Y1⟩ := tq_pop Y
  exact lv_ifnonnull X.1 X.2.1 hd ht (k X Y1 hc hs)
theorem tq_ifnonnullN {off : Int} (hd : decode M.2.1 pc = .ok (.ifnonnull off, 3)) (k : tq_W l M d bc bs Q (pc + 3) L S h) : tq_W l M d bc bs Q pc L (.null :: S) h := by
  intro p e R s m args below meth c D cA A ad0 mc ms X H locs cells slots ws ls S' Y hc hs
  obtain ⟨_, rfl, Y1⟩ := tq_popN Y
  exact lv_ifnonnullN X.1 X.2.1 hd (k X Y1 hc hs)
theorem tq_table {dflt lo hi : Int} {offs : Array Int} {len : Nat} {x : Int32} (hd : decode M.2.1 pc = .ok (.tableswitch dflt lo hi offs, len)) {td : Nat} (ht : (pc : Int) + dflt = (td : Int)) (ko : (x.toInt < lo ∨ hi < x.toInt) → tq_W l M d bc bs Q td L S h)
    (ki : ∀ (j : Nat) (off : Int), x.toInt = lo + j → offs[j]? = some off → ∃ tgt : Nat, (pc : Int) + off = (tgt : Int) ∧ tq_W l M d bc bs Q tgt L S h) (hsz : hi < lo + offs.size) : tq_W l M d bc bs Q pc L (.int x :: S) h := by
  intro p e R s m args below meth c D cA A ad0 mc ms X H locs cells slots ws ls S' Y hc hs
  obtain ⟨_, rfl, Y1⟩ := tq_popI Y
  by_cases q1 : x.toInt < lo
  · exact lv_tableOut X.1 X.2.1 hd (Or.inl q1) ht (ko (Or.inl q1) X Y1 hc hs)
  · by_cases q2 : hi < x.toInt
    · exact lv_tableOut X.1 X.2.1 hd (Or.inr q2) ht (ko (Or.inr q2) X Y1 hc hs)
    · have hj : (x.toInt - lo).toNat < offs.size := by omega
      have ho : offs[(x.toInt - lo).toNat]? = some offs[(x.toInt - lo).toNat] := Array.getElem?_eq_getElem hj
      obtain ⟨tgt, t1, t2⟩ := ki (x.toInt - lo).toNat _ (by omega) ho
      exact lv_tableIn X.1 X.2.1 hd q1 q2 ho t1 (t2 X Y1 hc hs)
end TQ2
end
section
/-! ===== fields, arrays, new things, answers, throws ===== -/
section TQ3
variable {l : Launch} {M : tq_M} {d bc bs : Nat} {Q : tq_R → tq_H → Prop} {pc : Nat} {L : List (Nat × Value)} {S : List Value} {h : tq_H}
/-- a class's row: its name, fields, how many, their types; and what the tables say of them -/
def tq_cok (ci : Nat) (C : String) (T : u_T) (N : Nat) (ty : Nat → FieldType) : Prop := tq_cl[ci]? = some (C, T, N) ∧ (∀ w ∈ u_ws C T N, w ∈ tq_G) ∧ (∀ k, k < N → parseFieldDescriptor (T k).2.2.1 = some (ty k)) ∧ (∀ a, a < N → ∀ b, b < N → a ≠ b → (T a).2.1 ≠ (T b).2.1)
theorem tq_getf {ci : Nat} {C : String} {T : u_T} {N : Nat} {ty : Nat → FieldType} (hC : tq_cok ci C T N ty) (k0 : Nat) (hk : k0 < N) {idx : Nat} (hd : decode M.2.1 pc = .ok (.getfield idx, 3)) (hw : Cond.fieldLink M.1 idx C (T k0).2.1 (T k0).2.2.1 ∈ tq_G) (hown : (T k0).1 = C)
    {q : Nat} {fs : List Value} (ho : h.2 q = .inl (ci, fs)) {v : Value} (hv : fs[k0]? = some v) (k : tq_W l M d bc bs Q (pc + 3) L (v :: S) h) : tq_W l M d bc bs Q pc L (.ref q :: S) h := by
  intro p e R s m args below meth c D cA A ad0 mc ms X H locs cells slots ws ls S' Y hc hs
  obtain ⟨a, x, S1, rfl, e1, e2, Y1⟩ := tq_popR Y
  rw [ho] at e2
  obtain ⟨gs, rfl, e3⟩ := e2
  obtain ⟨w, e4, e5⟩ := e3.at hv
  exact va_get (D := D) X.1 X.2.1 X.2.2.2.2.2.2.1 hC.2.1 X.2.2.2.2.2.1 X.2.2.2.2.2.2.2.1 Y.1 q e1 hC.1 k0 hk (X.2.2.2.2.2.2.1 _ hw) (fun x hx => by rw [hown] at hx; exact hx) e4 hd (k X (tq_psh Y1 e5) hc hs)
theorem tq_putf {ci : Nat} {C : String} {T : u_T} {N : Nat} {ty : Nat → FieldType} (hC : tq_cok ci C T N ty) (k0 : Nat) (hk : k0 < N) {idx : Nat} (hd : decode M.2.1 pc = .ok (.putfield idx, 3)) (hw : Cond.fieldLink M.1 idx C (T k0).2.1 (T k0).2.2.1 ∈ tq_G) (hown : (T k0).1 = C) (hfin : (T k0).2.2.2 = false ∨ (M.2.2.2.2.1 = true ∧ C = M.1))
    {q : Nat} {fs : List Value} (ho : h.2 q = .inl (ci, fs)) (hl : k0 < fs.length) {v : Value} (hn : ∀ (ad : List Nat) (w : Value), tq_vr ad v w → narrow (ty k0) w = w ∧ fits (ty k0) w = true) (k : tq_W l M d bc bs Q (pc + 3) L S (tq_up h q (.inl (ci, fs.set k0 v)))) : tq_W l M d bc bs Q pc L (v :: .ref q :: S) h := by
  intro p e R s m args below meth c D cA A ad0 mc ms X H locs cells slots ws ls S' Y hc hs
  obtain ⟨w, S0, rfl, e0, Y0⟩ := tq_pop Y
  obtain ⟨a, x, S1, rfl, e1, e2, Y1⟩ := tq_popR Y0
  rw [ho] at e2
  obtain ⟨gs, rfl, e3⟩ := e2
  have hn2 := hn _ _ e0
  cases hF : (T k0).2.2.2 with
  | false =>
    exact va_put (D := D) X.1 X.2.1 X.2.2.2.2.2.2.1 hC.2.1 ty hC.2.2.1 hC.2.2.2 X.2.2.2.2.2.1 X.2.2.2.2.2.2.2.1 Y.1 Y.2.1 Y.2.2.1 q e1 hC.1 k0 hk (X.2.2.2.2.2.2.1 _ hw) (fun x hx => by rw [hown] at hx; exact hx) hF (hC.2.2.1 k0 hk) hn2.1 hn2.2 (by rw [← e3.len]; exact hl) hd
      (fun H1 locs1 P1 D1 S1 => k X (tq_dyu Y1 e1 ⟨_, rfl, e3.set e0 k0⟩ P1 D1 S1) hc hs)
  | true =>
    rcases hfin with z | ⟨z1, z2⟩
    · rw [hF] at z; cases z
    · exact va_putF (D := D) X.1 X.2.1 X.2.2.2.2.2.2.1 hC.2.1 ty hC.2.2.1 hC.2.2.2 X.2.2.2.2.2.1 X.2.2.2.2.2.2.2.1 Y.1 Y.2.1 Y.2.2.1 q e1 hC.1 k0 hk (X.2.2.2.2.2.2.1 _ hw) (fun x hx => by rw [hown] at hx; exact hx) hF (X.2.2.2.2.2.2.2.2.2.2.2.2.2.2.1 z1) (by rw [hown]; exact z2) (hC.2.2.1 k0 hk) hn2.1 hn2.2 (by rw [← e3.len]; exact hl) hd
        (fun H1 locs1 P1 D1 S1 => k X (tq_dyu Y1 e1 ⟨_, rfl, e3.set e0 k0⟩ P1 D1 S1) hc hs)
theorem tq_nI (x : Int32) (ad : List Nat) (w : Value) (h : tq_vr ad (.int x) w) : narrow .int w = w ∧ fits .int w = true := by cases (show w = .int x from h); exact ⟨rfl, rfl⟩
theorem tq_nL (x : Int64) (ad : List Nat) (w : Value) (h : tq_vr ad (.long x) w) : narrow .long w = w ∧ fits .long w = true := by cases (show w = .long x from h); exact ⟨rfl, rfl⟩
theorem tq_nZ (b : Bool) (ad : List Nat) (w : Value) (h : tq_vr ad (.int (if b then 1 else 0)) w) : narrow .boolean w = w ∧ fits .boolean w = true := by
  cases (show w = .int (if b then 1 else 0) from h)
  cases b <;> exact ⟨by decide +kernel, by decide +kernel⟩
theorem tq_nR (k : Nat) (C : String) (ad : List Nat) (w : Value) (h : tq_vr ad (.ref k) w) : narrow (.object C) w = w ∧ fits (.object C) w = true := by obtain ⟨a, -, rfl⟩ := h; exact ⟨rfl, rfl⟩
theorem tq_nA (k : Nat) (t : FieldType) (ad : List Nat) (w : Value) (h : tq_vr ad (.ref k) w) : narrow (.array t) w = w ∧ fits (.array t) w = true := by obtain ⟨a, -, rfl⟩ := h; exact ⟨rfl, rfl⟩
-- arrays
theorem tq_alen (hd : decode M.2.1 pc = .ok (.arraylength, 1)) {q t n : Nat} {x : (Nat → Int32) ⊕ (Nat → Int64) ⊕ (Nat → UInt32) ⊕ (Nat → UInt64) ⊕ (Nat → Option Nat)} (ho : h.2 q = .inr (t, (n, x))) (ht : t < 4) (k : tq_W l M d bc bs Q (pc + 1) L (.int (Int32.ofNat n) :: S) h) : tq_W l M d bc bs Q pc L (.ref q :: S) h := by
  intro p e R s m args below meth c D cA A ad0 mc ms X H locs cells slots ws ls S' Y hc hs
  obtain ⟨a, z, S1, rfl, e1, e2, Y1⟩ := tq_popR Y
  rw [ho] at e2
  obtain ⟨y, rfl, e3⟩ := e2
  have ht2 : ∃ ty, (tq_ty cA)[t]? = some (cA t, ty) := by
    rcases (show t = 0 ∨ t = 1 ∨ t = 2 ∨ t = 3 by omega) with rfl | rfl | rfl | rfl <;> exact ⟨_, rfl⟩
  obtain ⟨ty, ht3⟩ := ht2
  exact va_alen (D := D) X.1 X.2.1 X.2.2.2.2.2.2.2.1 Y.1 q t e1 ht3 rfl hd (k X (tq_psh Y1 rfl) hc hs)
theorem tq_iald (hd : decode M.2.1 pc = .ok (.iaload, 1)) {q n : Nat} {f : Nat → Int32} (ho : h.2 q = .inr (0, (n, .inl f))) {i : Int32} (hi : vp_in i n) (k : tq_W l M d bc bs Q (pc + 1) L (.int (f i.toNatClampNeg) :: S) h) : tq_W l M d bc bs Q pc L (.int i :: .ref q :: S) h := by
  intro p e R s m args below meth c D cA A ad0 mc ms X H locs cells slots ws ls S' Y hc hs
  obtain ⟨_, rfl, Y0⟩ := tq_popI Y
  obtain ⟨a, z, S1, rfl, e1, e2, Y1⟩ := tq_popR Y0
  rw [ho] at e2
  obtain ⟨y, rfl, e3⟩ := e2
  cases (show y = .inl f from e3)
  exact va_iald (D := D) X.1 X.2.1 X.2.2.2.2.2.2.2.1 Y.1 q 0 e1 rfl hi hd (k X (tq_psh Y1 rfl) hc hs)
theorem tq_zald (hd : decode M.2.1 pc = .ok (.baload, 1)) {q n : Nat} {f : Nat → Int32} (ho : h.2 q = .inr (1, (n, .inl f))) {i : Int32} (hi : vp_in i n) (k : tq_W l M d bc bs Q (pc + 1) L (.int (f i.toNatClampNeg) :: S) h) : tq_W l M d bc bs Q pc L (.int i :: .ref q :: S) h := by
  intro p e R s m args below meth c D cA A ad0 mc ms X H locs cells slots ws ls S' Y hc hs
  obtain ⟨_, rfl, Y0⟩ := tq_popI Y
  obtain ⟨a, z, S1, rfl, e1, e2, Y1⟩ := tq_popR Y0
  rw [ho] at e2
  obtain ⟨y, rfl, e3⟩ := e2
  cases (show y = .inl f from e3)
  exact va_zald (D := D) X.1 X.2.1 X.2.2.2.2.2.2.2.1 Y.1 q 1 e1 rfl hi hd (k X (tq_psh Y1 rfl) hc hs)
theorem tq_lald (hd : decode M.2.1 pc = .ok (.laload, 1)) {q n : Nat} {f : Nat → Int64} (ho : h.2 q = .inr (2, (n, .inr (.inl f)))) {i : Int32} (hi : vp_in i n) (k : tq_W l M d bc bs Q (pc + 1) L (.long (f i.toNatClampNeg) :: S) h) : tq_W l M d bc bs Q pc L (.int i :: .ref q :: S) h := by
  intro p e R s m args below meth c D cA A ad0 mc ms X H locs cells slots ws ls S' Y hc hs
  obtain ⟨_, rfl, Y0⟩ := tq_popI Y
  obtain ⟨a, z, S1, rfl, e1, e2, Y1⟩ := tq_popR Y0
  rw [ho] at e2
  obtain ⟨y, rfl, e3⟩ := e2
  cases (show y = .inr (.inl f) from e3)
  exact va_lald (D := D) X.1 X.2.1 X.2.2.2.2.2.2.2.1 Y.1 q 2 e1 rfl hi hd (k X (tq_psh Y1 rfl) hc hs)
def tq_rf (o : Option Nat) : Value := match o with
  | none => .null
  | some k => .ref k
theorem tq_aald (hd : decode M.2.1 pc = .ok (.aaload, 1)) {q n : Nat} {f : Nat → Option Nat} (ho : h.2 q = .inr (3, (n, .inr (.inr (.inr (.inr f)))))) {i : Int32} (hi : vp_in i n) (k : tq_W l M d bc bs Q (pc + 1) L (tq_rf (f i.toNatClampNeg) :: S) h) : tq_W l M d bc bs Q pc L (.int i :: .ref q :: S) h := by
  intro p e R s m args below meth c D cA A ad0 mc ms X H locs cells slots ws ls S' Y hc hs
  obtain ⟨_, rfl, Y0⟩ := tq_popI Y
  obtain ⟨a, z, S1, rfl, e1, e2, Y1⟩ := tq_popR Y0
  rw [ho] at e2
  obtain ⟨y, rfl, g, rfl, e4⟩ := e2
  refine va_aldq (D := D) X.1 X.2.1 X.2.2.2.2.2.2.2.1 Y.1 q 3 e1 rfl hi hd (k X (tq_psh Y1 ?_) hc hs)
  have e5 := e4 i.toNatClampNeg
  cases hf : f i.toNatClampNeg with
  | none => rw [e5.1 hf]; rfl
  | some j =>
    obtain ⟨b, b1, b2⟩ := e5.2 j hf
    rw [b2]
    exact ⟨b, b1, rfl⟩
theorem tq_iast (hd : decode M.2.1 pc = .ok (.iastore, 1)) {q n : Nat} {f : Nat → Int32} (ho : h.2 q = .inr (0, (n, .inl f))) {i x : Int32} (hi : vp_in i n) (k : tq_W l M d bc bs Q (pc + 1) L S (tq_up h q (.inr (0, (n, .inl (upd f i.toNatClampNeg x)))))) : tq_W l M d bc bs Q pc L (.int x :: .int i :: .ref q :: S) h := by
  intro p e R s m args below meth c D cA A ad0 mc ms X H locs cells slots ws ls S' Y hc hs
  obtain ⟨_, rfl, Y0⟩ := tq_popI Y
  obtain ⟨_, rfl, Y2⟩ := tq_popI Y0
  obtain ⟨a, z, S1, rfl, e1, e2, Y1⟩ := tq_popR Y2
  rw [ho] at e2
  obtain ⟨y, rfl, e3⟩ := e2
  cases (show y = .inl f from e3)
  exact va_iast (D := D) X.1 X.2.1 X.2.2.2.2.2.2.2.1 Y.1 Y.2.1 Y.2.2.1 q 0 e1 rfl hi hd (fun H1 locs1 P1 D1 S1 => k X (tq_dyu Y1 e1 ⟨_, rfl, rfl⟩ P1 D1 S1) hc hs)
theorem tq_last (hd : decode M.2.1 pc = .ok (.lastore, 1)) {q n : Nat} {f : Nat → Int64} (ho : h.2 q = .inr (2, (n, .inr (.inl f)))) {i : Int32} {x : Int64} (hi : vp_in i n) (k : tq_W l M d bc bs Q (pc + 1) L S (tq_up h q (.inr (2, (n, .inr (.inl (vp_updL f i.toNatClampNeg x))))))) : tq_W l M d bc bs Q pc L (.long x :: .int i :: .ref q :: S) h := by
  intro p e R s m args below meth c D cA A ad0 mc ms X H locs cells slots ws ls S' Y hc hs
  obtain ⟨_, rfl, Y0⟩ := tq_popL Y
  obtain ⟨_, rfl, Y2⟩ := tq_popI Y0
  obtain ⟨a, z, S1, rfl, e1, e2, Y1⟩ := tq_popR Y2
  rw [ho] at e2
  obtain ⟨y, rfl, e3⟩ := e2
  cases (show y = .inr (.inl f) from e3)
  exact va_last (D := D) X.1 X.2.1 X.2.2.2.2.2.2.2.1 Y.1 Y.2.1 Y.2.2.1 q 2 e1 rfl hi hd (fun H1 locs1 P1 D1 S1 => k X (tq_dyu Y1 e1 ⟨_, rfl, rfl⟩ P1 D1 S1) hc hs)
theorem tq_aast (hd : decode M.2.1 pc = .ok (.aastore, 1)) {q n : Nat} {f : Nat → Option Nat} (ho : h.2 q = .inr (3, (n, .inr (.inr (.inr (.inr f)))))) {i : Int32} {v : Nat} {fs : List Value} (hv : h.2 v = .inl (8, fs)) (hi : vp_in i n) (k : tq_W l M d bc bs Q (pc + 1) L S (tq_up h q (.inr (3, (n, .inr (.inr (.inr (.inr (va_up f i.toNatClampNeg (some v)))))))))) : tq_W l M d bc bs Q pc L (.ref v :: .int i :: .ref q :: S) h := by
  intro p e R s m args below meth c D cA A ad0 mc ms X H locs cells slots ws ls S' Y hc hs
  obtain ⟨b, zb, Sb, rfl, eb1, eb2, Yb⟩ := tq_popR Y
  obtain ⟨_, rfl, Y2⟩ := tq_popI Yb
  obtain ⟨a, z, S1, rfl, e1, e2, Y1⟩ := tq_popR Y2
  rw [ho] at e2
  obtain ⟨y, rfl, g, rfl, e4⟩ := e2
  rw [hv] at eb2
  obtain ⟨gs, rfl, eb3⟩ := eb2
  have hb : (tq_ad ws)[v]? = some b := by rw [List.getElem?_map, eb1]; rfl
  refine va_astq (D := D) (r := (RX8, TX8, 11)) X.1 X.2.1 X.2.2.2.2.2.2.2.1 Y.1 Y.2.1 Y.2.2.1 q 3 v 8 e1 rfl eb1 rfl hi hd (fun H1 locs1 P1 D1 S1 => k X (tq_dyu Y1 e1 ⟨_, rfl, _, rfl, fun j => ?_⟩ P1 D1 S1) hc hs)
  by_cases hj : j = i.toNatClampNeg
  · subst hj
    simp only [va_up, if_true]
    exact ⟨fun z => by simp at z, fun i2 z => ⟨b, by rw [← Option.some.inj z]; exact hb, rfl⟩⟩
  · simp only [va_up, if_neg hj]
    exact e4 j
end TQ3
end
section
/-! ===== new things, answers, throws, contracts and calls ===== -/
/-- where a method's world may be written: its own things, and what is new -/
theorem tq_A1 {A : Nat → Prop} {ws : va_W} {H0 H : Heap} {locs : List Loc} (hD : va_D A ws) (hS : va_S A H0 H locs) (hA : ∀ q, H0.size ≤ q → A q) : ∀ q, va_A ws H.size q → A q := by
  intro q h
  rcases h with ⟨k, e, h⟩ | h
  · exact hD.2 k _ h
  · exact hA q (Nat.le_trans hS.1 h)
theorem tq_zq.now {A B : Nat → Prop} {s U : State} {H : Heap} {locs : List Loc} (h : tq_zq A s s.heap) (hS : va_S A s.heap H locs) (hB : ∀ q, B q → A q) (hW : s.WarmedH U.vm) : tq_zq B U H :=
  ⟨((vx_Zq.moved hW.alike (h.1.kept hS.2.1)).narrow hB), ((vx_Zq.moved hW.alike (h.2.kept hS.2.1)).narrow hB)⟩
def tq_rm (d bc bs : Nat) : Room := { frames := d, cells := bc, slots := bs, locals := 38 * d + 20 }
def tq_Pc (D : va_G) (cA : Nat → ClassId) (ws : va_W) (as : List Value) (sz : Nat) : Array Value → State → Prop := fun a U =>
  a = as.toArray ∧ U.heap.size = sz ∧ va_P D tq_cl ws U.heap ∧ va_K D tq_cl (tq_ty cA) U ∧ va_D (fun _ => True) ws ∧ tq_zq (va_A ws sz) U U.heap ∧ tq_bx U
/-- a method's contract, in any world h: from these arguments, at most so deep, at most so many new things: Q -/
def tq_C (l : Launch) (y : MethodName) (cc : ByteArray) (nL : Nat) (ret : Option FieldType) (d bc bs : Nat) (as : List Value) (h : tq_H) (Q : tq_R → tq_H → Prop) : Prop :=
  l.stackTraces = false → ∀ (D : va_G) (cA : Nat → ClassId) (ws : va_W) (as' : List Value) (sz : Nat), tq_w cA h ws → tq_al (tq_vr (tq_ad ws)) as as' →
    vx_Met l y (Cond.code y cc nL ret :: tq_G) (tq_rm d bc bs) (tq_Pc D cA ws as' sz) (tq_Qc D cA (va_A ws sz) (tq_ad ws) Q) (tq_XC D cA (va_A ws sz) (tq_ad ws) Q) bc bs (va_A ws sz)
theorem tq_al_args {ad : List Nat} : ∀ {as as' : List Value} (i : Nat), tq_al (tq_vr ad) as as' → tq_al (tq_lr ad) (lv_args i as) (lv_args i as')
  | [], [], _, _ => trivial
  | a :: as, b :: bs, i, q => by
    have e := q.1.cat
    refine ⟨⟨rfl, q.1⟩, ?_⟩
    rw [e]
    exact tq_al_args _ q.2
  | [], _ :: _, _, q => q.elim
  | _ :: _, [], _, q => q.elim
theorem tq_sl_len {ad : List Nat} : ∀ {as as' : List Value}, tq_al (tq_vr ad) as as' → (lg_sl as).length = (lg_sl as').length
  | [], [], _ => rfl
  | a :: as, b :: bs, q => by
    have e := q.1.cat
    have h := tq_sl_len q.2
    simp only [lg_sl, List.flatMap_cons, List.length_append] at h ⊢
    rw [h]
    congr 1
    cases a <;> cases b <;> simp_all [Value.category]
  | [], _ :: _, q => q.elim
  | _ :: _, [], q => q.elim
theorem tq_body {l : Launch} {y : MethodName} {cc : ByteArray} {nL : Nat} {ret : Option FieldType} {d bc bs : Nat} {as : List Value} {h : tq_H} {Q : tq_R → tq_H → Prop} (b : Bool) (hy : plainName y.cls = true) (hb : b = true → y.name = "<init>") (hlen : (lg_sl as).length ≤ nL)
    (k : tq_W l (y.cls, cc, nL, ret, b, []) d bc bs Q 0 (lv_args 0 as) [] h) : tq_C l y cc nL ret d bc bs as h Q := by
  intro hl D cA ws as' sz hw hal
  refine vx_ofW (ws' := tq_G) hy rfl ?_
  intro p e s m args below meth c s₁ B hml ht hv
  obtain ⟨rfl, hsz, hP, hK, hD0, hz, hbx⟩ := hv
  have hts : ∀ w ∈ tq_G, w.before as'.toArray s = true := fun w hw2 => atoms_spec (ws := Cond.code y cc nL ret :: tq_G) B.pre w (List.mem_cons_of_mem _ hw2)
  have hown : s.vm.findClass y.cls = some m.cls := findClass_of_methodNamed B.named
  subst hsz
  have hD := hD0.self (sz := s.heap.size)
  have hent := lv_entry as' (n := nL) (by rw [← tq_sl_len hal]; exact hlen)
  rw [lg_entry_eq]
  generalize (lg_sl as' ++ List.replicate (nL - (lg_sl as').length) Slot.unset).toArray = ls at hent ⊢
  have X : tq_cx l (y.cls, cc, nL, ret, b, []) d p (headSpec (Cond.code y cc nL ret :: tq_G) (tq_rm d bc bs)).room s m as'.toArray meth c D cA (va_A ws s.heap.size) bc bs :=
    ⟨B.exec, B.bytes, hml, B.returns, B.notSynchronized, hown, hts, hK, rfl, rfl, Nat.le_refl _, Nat.le_refl _, fun q hq => Or.inr hq, hz, fun hbt => (name_of_methodNamed B.named B.method).1.trans (hb hbt), by
      cases hq : c.exceptionTable.toList with
      | nil => rfl
      | cons x r => exact (ht x (by rw [hq]; exact List.mem_cons_self)).elim, hbx, hl⟩
  exact k X (cells := 0) (slots := 0) ⟨hP, hD, va_S.rf, hw, List.prefix_refl _, ⟨_, hent, tq_al_args 0 hal⟩, trivial⟩ (by omega) (by omega)
end
section
/-! ===== answers, throws, new things, calls ===== -/
section TQ4
variable {l : Launch} {M : tq_M} {d bc bs : Nat} {Q : tq_R → tq_H → Prop} {pc : Nat} {L : List (Nat × Value)} {S : List Value} {h : tq_H}
theorem tq_endok {D : va_G} {cA : Nat → ClassId} {A : Nat → Prop} {ad0 : List Nat} {s : State} {H : Heap} {locs : List Loc} {ws : va_W} {ls : Array Slot} {S' : List Value} {nL : Nat} (Y : tq_dy nL D cA A ad0 s.heap h L S H locs ws ls S') {t : State} (ht : t.heap = H) : tq_end D cA A ad0 h t ∧ va_F A s t :=
  ⟨⟨ws, by rw [ht]; exact Y.1, Y.2.1, Y.2.2.2.1, Y.2.2.2.2.1⟩, Y.2.2.1.F ht⟩
theorem tq_iret (hd : decode M.2.1 pc = .ok (.ireturn, 1)) (hr : M.2.2.2.1 = some .int) {v : Int32} (q : Q (.inl (some (.int v))) h) : tq_W l M d bc bs Q pc L [.int v] h := by
  intro p e R s m args below meth c D cA A ad0 mc ms X H locs cells slots ws ls S' Y hc hs
  obtain ⟨_, rfl, Y1⟩ := tq_popI Y
  cases List.length_eq_zero_iff.mp (tq_al.len Y1.2.2.2.2.2.2).symm
  refine vx_ret (W.widen (k := mc) (n := ms) (by omega) (by omega) ?_)
  exact W.iret X.1 X.2.1 (X.2.2.2.1.trans hr) (fun t ht hW => ⟨Or.inr ⟨.int v, .int v, h, rfl, q, ws, by rw [ht]; exact Y.1, Y.2.1, Y.2.2.2.1, Y.2.2.2.2.1, rfl⟩, Y.2.2.1.F ht⟩) Y.2.2.1.2.2 hd X.2.2.2.2.1
theorem tq_zret (hd : decode M.2.1 pc = .ok (.ireturn, 1)) (hr : M.2.2.2.1 = some .boolean) {v : Int32} (hv : v = 0 ∨ v = 1) (q : Q (.inl (some (.int v))) h) : tq_W l M d bc bs Q pc L [.int v] h := by
  intro p e R s m args below meth c D cA A ad0 mc ms X H locs cells slots ws ls S' Y hc hs
  obtain ⟨_, rfl, Y1⟩ := tq_popI Y
  cases List.length_eq_zero_iff.mp (tq_al.len Y1.2.2.2.2.2.2).symm
  refine vx_ret (W.widen (k := mc) (n := ms) (by omega) (by omega) ?_)
  exact W.zret X.1 X.2.1 (X.2.2.2.1.trans hr) (by rcases hv with rfl | rfl <;> decide +kernel) (fun t ht hW => ⟨Or.inr ⟨.int v, .int v, h, rfl, q, ws, by rw [ht]; exact Y.1, Y.2.1, Y.2.2.2.1, Y.2.2.2.2.1, rfl⟩, Y.2.2.1.F ht⟩) Y.2.2.1.2.2 hd X.2.2.2.2.1
theorem tq_lret (hd : decode M.2.1 pc = .ok (.lreturn, 1)) (hr : M.2.2.2.1 = some .long) {v : Int64} (q : Q (.inl (some (.long v))) h) : tq_W l M d bc bs Q pc L [.long v] h := by
  intro p e R s m args below meth c D cA A ad0 mc ms X H locs cells slots ws ls S' Y hc hs
  obtain ⟨_, rfl, Y1⟩ := tq_popL Y
  cases List.length_eq_zero_iff.mp (tq_al.len Y1.2.2.2.2.2.2).symm
  refine vx_ret (W.widen (k := mc) (n := ms) (by omega) (by omega) ?_)
  exact W.lret X.1 X.2.1 (X.2.2.2.1.trans hr) (fun t ht hW => ⟨Or.inr ⟨.long v, .long v, h, rfl, q, ws, by rw [ht]; exact Y.1, Y.2.1, Y.2.2.2.1, Y.2.2.2.2.1, rfl⟩, Y.2.2.1.F ht⟩) Y.2.2.1.2.2 hd X.2.2.2.2.1
theorem tq_vret (hd : decode M.2.1 pc = .ok (.return_, 1)) (hr : M.2.2.2.1 = none) (q : Q (.inl none) h) : tq_W l M d bc bs Q pc L [] h := by
  intro p e R s m args below meth c D cA A ad0 mc ms X H locs cells slots ws ls S' Y hc hs
  cases List.length_eq_zero_iff.mp (tq_al.len Y.2.2.2.2.2.2).symm
  refine vx_ret (W.widen (k := mc) (n := ms) (by omega) (by omega) ?_)
  exact W.vret X.1 X.2.1 (X.2.2.2.1.trans hr) (fun t ht hW => ⟨Or.inl ⟨rfl, h, q, (tq_endok Y ht).1⟩, Y.2.2.1.F ht⟩) Y.2.2.1.2.2 hd X.2.2.2.2.1
theorem tq_aret (hd : decode M.2.1 pc = .ok (.areturn, 1)) {C : String} (hr : M.2.2.2.1 = some (.object C)) {k : Nat} (q : Q (.inl (some (.ref k))) h) : tq_W l M d bc bs Q pc L [.ref k] h := by
  intro p e R s m args below meth c D cA A ad0 mc ms X H locs cells slots ws ls S' Y hc hs
  obtain ⟨w, S1, rfl, ⟨a, h3, rfl⟩, Y1⟩ := tq_pop Y
  cases List.length_eq_zero_iff.mp (tq_al.len Y1.2.2.2.2.2.2).symm
  refine vx_ret (W.widen (k := mc) (n := ms) (by omega) (by omega) ?_)
  exact W.aret X.1 X.2.1 (X.2.2.2.1.trans hr) (Or.inl ⟨C, rfl⟩) (Or.inr ⟨a, rfl⟩) (fun t ht hW => ⟨Or.inr ⟨.ref k, .ref a, h, rfl, q, ws, by rw [ht]; exact Y.1, Y.2.1, Y.2.2.2.1, Y.2.2.2.2.1, a, h3, rfl⟩, Y.2.2.1.F ht⟩) Y.2.2.1.2.2 hd X.2.2.2.2.1
/-- an exception that goes on to the caller -/
theorem tq_out {E : String} (ht : M.2.2.2.2.2 = []) (q : Q (.inr E) h) : tq_X l M d bc bs Q E pc L h := by
  intro p e R s m args below meth c D cA A ad0 mc ms X H locs cells slots ws ls S' ce a Y hc hs h1 h2 h3
  refine vx_out ?_ X.2.2.2.2.1 h1 h2 h3 (fun t ht2 _ => ⟨⟨h, q, (tq_endok Y ht2).1⟩, (tq_endok Y ht2).2⟩) Y.2.2.1.2.2 (by omega) (by omega)
  intro x hx
  rw [X.2.2.2.2.2.2.2.2.2.2.2.2.2.2.2.1, ht] at hx
  cases hx
/-- a new object of a class -/
theorem tq_newo {ci : Nat} {C : String} {T : u_T} {N : Nat} {ty : Nat → FieldType} (hC : tq_cok ci C T N ty) {idx : Nat} (hd : decode M.2.1 pc = .ok (.new idx, 3)) (hw : Cond.classLink M.1 idx C ∈ tq_G) (hi : Cond.instantiable C N ∈ tq_G) (hn : Cond.initialized C ∈ tq_G) {fs : List Value} (hfs : ∀ j, j < N → defaultValue (ty j) = vp_V fs j) (hfr : ∀ ad, tq_al (tq_vr ad) fs fs) {bc' bs' : Nat} (hc : 1 + bc' = bc) (hs : N + bs' = bs)
    (k : tq_W l M d bc' bs' Q (pc + 3) L (.ref h.1 :: S) (tq_new h (.inl (ci, fs)))) : tq_W l M d bc bs Q pc L S h := by
  subst hc; subst hs
  intro p e R s m args below meth c D cA A ad0 mc ms X H locs cells slots ws ls S' Y hc hs
  have hcr := X.2.2.2.2.2.2.2.2.2.2.1
  have hsr := X.2.2.2.2.2.2.2.2.2.2.2.1
  exact va_new (D := D) X.1 X.2.1 X.2.2.2.2.2.2.1 hC.2.1 ty hC.2.2.1 X.2.2.2.2.2.1 (X.2.2.2.2.2.2.1 _ hw) (X.2.2.2.2.2.2.1 _ hi) (X.2.2.2.2.2.2.1 _ hn) X.2.2.2.2.2.2.2.1 Y.1 Y.2.1 Y.2.2.1 X.2.2.2.2.2.2.2.2.2.2.2.2.1 hC.1 hfs (by omega) (by omega) hd
    (fun q H1 P1 D1 S1 => k X (tq_dyn Y ⟨_, rfl, hfr _⟩ P1 D1 S1) (by omega) (by omega))
theorem tq_cls {s : State} {D : va_G} {cA : Nat → ClassId} {cB : ClassId} {ty : FieldType} {t : Nat} (hK : va_K D tq_cl (tq_ty cA ++ [(cB, ty)]) s) (ht : (tq_ty cA)[t]? = some (cA t, ty)) : cB = cA t := by
  have h1 := (hK.2 4 (cB, ty) rfl).2
  have h2 := (hK.2 t (cA t, ty) (by rw [List.getElem?_append_left (List.getElem?_eq_some_iff.mp ht).1]; exact ht)).2
  cases ty with
  | object C =>
    obtain ⟨k1, c1, -, -, -, e1⟩ := h1
    obtain ⟨k2, c2, -, -, -, e2⟩ := h2
    exact Option.some.inj (e1.symm.trans e2)
  | _ => exact Option.some.inj ((show s.vm.findClass _ = some cB from h1).symm.trans (show s.vm.findClass _ = some _ from h2))
theorem tq_newi (hd : decode M.2.1 pc = .ok (.newarray .int, 2)) (hw : Cond.arrayClass .int ∈ tq_G) {n : Int32} {N : Nat} (hn : ¬ n < 0) (hN : n.toNatClampNeg = N) (hb : N ≤ 100000000) {bc' bs' : Nat} (hc : 1 + bc' = bc) (hs : N + bs' = bs)
    (k : tq_W l M d bc' bs' Q (pc + 2) L (.ref h.1 :: S) (tq_new h (.inr (0, (N, .inl (fun _ => 0)))))) : tq_W l M d bc bs Q pc L (.int n :: S) h := by
  subst hc; subst hs
  intro p e R s m args below meth c D cA A ad0 mc ms X H locs cells slots ws ls S' Y hc hs
  obtain ⟨_, rfl, Y1⟩ := tq_popI Y
  have hcr := X.2.2.2.2.2.2.2.2.2.2.1
  have hsr := X.2.2.2.2.2.2.2.2.2.2.2.1
  refine va_newa (D := D) (atype := .int) (ty := .int) (a0 := (N, .inl (fun _ => 0))) X.1 X.2.1 (X.2.2.2.2.2.2.1 _ hw) rfl X.2.2.2.2.2.2.2.1 Y.1 Y.2.1 Y.2.2.1 X.2.2.2.2.2.2.2.2.2.2.2.2.1 (fun _ => rfl) hn hN (by show N * 4 ≤ _; omega) (by omega) (by omega) hd (fun q cB H1 K1 P1 D1 S1 => ?_)
  cases tq_cls (t := 0) K1 rfl
  exact k X (tq_dyn Y1 ⟨_, rfl, rfl⟩ P1 D1 S1) (by omega) (by omega)
theorem tq_newl (hd : decode M.2.1 pc = .ok (.newarray .long, 2)) (hw : Cond.arrayClass .long ∈ tq_G) {n : Int32} {N : Nat} (hn : ¬ n < 0) (hN : n.toNatClampNeg = N) (hb : N ≤ 60000000) {bc' bs' : Nat} (hc : 1 + bc' = bc) (hs : N + bs' = bs)
    (k : tq_W l M d bc' bs' Q (pc + 2) L (.ref h.1 :: S) (tq_new h (.inr (2, (N, .inr (.inl (fun _ => 0))))))) : tq_W l M d bc bs Q pc L (.int n :: S) h := by
  subst hc; subst hs
  intro p e R s m args below meth c D cA A ad0 mc ms X H locs cells slots ws ls S' Y hc hs
  obtain ⟨_, rfl, Y1⟩ := tq_popI Y
  have hcr := X.2.2.2.2.2.2.2.2.2.2.1
  have hsr := X.2.2.2.2.2.2.2.2.2.2.2.1
  refine va_newa (D := D) (atype := .long) (ty := .long) (a0 := (N, .inr (.inl (fun _ => 0)))) X.1 X.2.1 (X.2.2.2.2.2.2.1 _ hw) rfl X.2.2.2.2.2.2.2.1 Y.1 Y.2.1 Y.2.2.1 X.2.2.2.2.2.2.2.2.2.2.2.2.1 (fun _ => rfl) hn hN (by show N * 8 ≤ _; omega) (by omega) (by omega) hd (fun q cB H1 K1 P1 D1 S1 => ?_)
  cases tq_cls (t := 2) K1 rfl
  exact k X (tq_dyn Y1 ⟨_, rfl, rfl⟩ P1 D1 S1) (by omega) (by omega)
theorem tq_newz (hd : decode M.2.1 pc = .ok (.newarray .boolean, 2)) (hw : Cond.arrayClass .boolean ∈ tq_G) {n : Int32} {N : Nat} (hn : ¬ n < 0) (hN : n.toNatClampNeg = N) (hb : N ≤ 100000000) {bc' bs' : Nat} (hc : 1 + bc' = bc) (hs : N + bs' = bs)
    (k : tq_W l M d bc' bs' Q (pc + 2) L (.ref h.1 :: S) (tq_new h (.inr (1, (N, .inl (fun _ => 0)))))) : tq_W l M d bc bs Q pc L (.int n :: S) h := by
  subst hc; subst hs
  intro p e R s m args below meth c D cA A ad0 mc ms X H locs cells slots ws ls S' Y hc hs
  obtain ⟨_, rfl, Y1⟩ := tq_popI Y
  have hcr := X.2.2.2.2.2.2.2.2.2.2.1
  have hsr := X.2.2.2.2.2.2.2.2.2.2.2.1
  refine va_newa (D := D) (atype := .boolean) (ty := .boolean) (a0 := (N, .inl (fun _ => 0))) X.1 X.2.1 (X.2.2.2.2.2.2.1 _ hw) rfl X.2.2.2.2.2.2.2.1 Y.1 Y.2.1 Y.2.2.1 X.2.2.2.2.2.2.2.2.2.2.2.2.1 (fun _ => rfl) hn hN (by show N * 1 ≤ _; omega) (by omega) (by omega) hd (fun q cB H1 K1 P1 D1 S1 => ?_)
  cases tq_cls (t := 1) K1 rfl
  exact k X (tq_dyn Y1 ⟨_, rfl, rfl⟩ P1 D1 S1) (by omega) (by omega)
theorem tq_zast (hd : decode M.2.1 pc = .ok (.bastore, 1)) {q n : Nat} {f : Nat → Int32} (ho : h.2 q = .inr (1, (n, .inl f))) {i : Int32} {x : Int32} (hx : x = 0 ∨ x = 1) (hi : vp_in i n) (k : tq_W l M d bc bs Q (pc + 1) L S (tq_up h q (.inr (1, (n, .inl (upd f i.toNatClampNeg x)))))) : tq_W l M d bc bs Q pc L (.int x :: .int i :: .ref q :: S) h := by
  intro p e R s m args below meth c D cA A ad0 mc ms X H locs cells slots ws ls S' Y hc hs
  obtain ⟨_, rfl, Y0⟩ := tq_popI Y
  obtain ⟨_, rfl, Y2⟩ := tq_popI Y0
  obtain ⟨a, z, S1, rfl, e1, e2, Y1⟩ := tq_popR Y2
  rw [ho] at e2
  obtain ⟨y, rfl, e3⟩ := e2
  cases (show y = .inl f from e3)
  have hv : vp_nar .boolean x = x := by rcases hx with rfl | rfl <;> decide +kernel
  refine va_zast (D := D) X.1 X.2.1 X.2.2.2.2.2.2.2.1 Y.1 Y.2.1 Y.2.2.1 q 1 e1 rfl hi hd (fun H1 locs1 P1 D1 S1 => ?_)
  rw [hv] at P1 D1
  exact k X (tq_dyu Y1 e1 ⟨_, rfl, rfl⟩ P1 D1 S1) hc hs
theorem tq_newq (idx : Nat) (hd : decode M.2.1 pc = .ok (.anewarray idx, 3)) (hw : Cond.classLink M.1 idx "Treequery$Tree" ∈ tq_G) {n : Int32} {N : Nat} (hn : ¬ n < 0) (hN : n.toNatClampNeg = N) (hb : N ≤ 100000000) {bc' bs' : Nat} (hc : 1 + bc' = bc) (hs : N + bs' = bs)
    (k : tq_W l M d bc' bs' Q (pc + 3) L (.ref h.1 :: S) (tq_new h (.inr (3, (N, .inr (.inr (.inr (.inr (fun _ => none))))))))) : tq_W l M d bc bs Q pc L (.int n :: S) h := by
  subst hc; subst hs
  intro p e R s m args below meth c D cA A ad0 mc ms X H locs cells slots ws ls S' Y hc hs
  obtain ⟨_, rfl, Y1⟩ := tq_popI Y
  have hcr := X.2.2.2.2.2.2.2.2.2.2.1
  have hsr := X.2.2.2.2.2.2.2.2.2.2.2.1
  refine va_newq (D := D) X.1 X.2.1 X.2.2.2.2.2.1 (X.2.2.2.2.2.2.1 _ hw) X.2.2.2.2.2.2.2.2.2.2.2.2.2.2.2.2.1.2.2 X.2.2.2.2.2.2.2.1 Y.1 Y.2.1 Y.2.2.1 X.2.2.2.2.2.2.2.2.2.2.2.2.1 hn hN (by omega) (by omega) (by omega) hd (fun q cB H1 K1 P1 D1 S1 => ?_)
  cases tq_cls (t := 3) K1 rfl
  exact k X (tq_dyn Y1 ⟨_, rfl, _, rfl, fun j => ⟨fun _ => rfl, fun i z => by cases z⟩⟩ P1 D1 S1) (by omega) (by omega)
theorem tq_objinit {idx : Nat} (hd : decode M.2.1 pc = .ok (.invokespecial idx, 3)) (hw : Cond.methodLink M.1 idx Lib.objectInit ∈ tq_G) (hi : Cond.instanceMethod Lib.objectInit ∈ tq_G) (hcd : Cond.code Lib.objectInit ⟨#[0xb1]⟩ 1 none ∈ tq_G) {q : Nat} (hdp : 1 ≤ d) (hS : (S.map fun v => v.category).sum ≤ 8) (k : tq_W l M d bc bs Q (pc + 3) L S h) : tq_W l M d bc bs Q pc L (.ref q :: S) h := by
  intro p e R s m args below meth c D cA A ad0 mc ms X H locs cells slots ws ls S' Y hc hs
  obtain ⟨a, x, S1, rfl, e1, e2, Y1⟩ := tq_popR Y
  have hcat : (S1.map fun v => v.category) = (S.map fun v => v.category) := by
    have := Y1.2.2.2.2.2.2
    clear hd hS k Y Y1 e1 e2
    induction S generalizing S1 with
    | nil => cases S1 with
      | nil => rfl
      | cons => exact this.elim
    | cons v S ih => cases S1 with
      | nil => exact this.elim
      | cons w S1 => simp only [List.map_cons]; rw [this.1.cat, ih _ this.2]
  have hls : ls.size = c.maxLocals := by
    obtain ⟨L', h1, -⟩ := Y.2.2.2.2.2.1
    rw [h1.1, X.2.2.1]
  refine W.objInit (g := F0 m pc ls (.ref a :: S1)) (rest := S1) X.1 X.2.1 X.2.2.2.2.2.1 (X.2.2.2.2.2.2.1 _ hw) (X.2.2.2.2.2.2.1 _ hi) (X.2.2.2.2.2.2.1 _ hcd) rfl hls rfl hd (by rw [X.2.2.2.2.2.2.2.2.1]; exact hdp) ?_ (k X Y1 hc hs)
  rw [hcat, X.2.2.2.2.2.2.2.2.2.1]
  show 2 * 0 + _ + 12 ≤ _
  omega
end TQ4
end
section
/-! ===== calls and throws, over the small machine ===== -/
theorem tq_word {args : Array Value} {s : State} (hts : ∀ w ∈ tq_G, w.before args s = true) {y : MethodName} {cc : ByteArray} {nL : Nat} {ret : Option FieldType} (hy : Cond.code y cc nL ret ∈ tq_G) : ∀ w ∈ Cond.code y cc nL ret :: tq_G, ∀ (a' : Array Value) (U : State), s.WarmedH U.vm → w.before a' U = true := by
  intro w hw a' U hW
  have hw2 : w ∈ tq_G := by
    rcases List.mem_cons.mp hw with rfl | h
    · exact hy
    · exact h
  exact word_at hW (good_of_word (tq_Gg w hw2)) (hts w hw2)
/-- what the tables say of a method -/
def tq_yok (y : MethodName) (cc : ByteArray) (nL : Nat) (ret : Option FieldType) (n : Nat) : Prop := Cond.code y cc nL ret ∈ tq_G ∧ Cond.initialized y.cls ∈ tq_G ∧ (y.cls ≠ "java/lang/invoke/MethodHandle" ∧ y.cls ≠ "java/lang/invoke/VarHandle") ∧ (parseMethodDescriptor y.desc).map (fun q => q.parameters.length) = some n ∧ nL ≤ 19
def tq_vok (y : MethodName) : Prop := Cond.instanceMethod y ∈ tq_G ∧ Cond.selects y.cls y y ∈ tq_G
theorem tq_blind {D : va_G} {cA : Nat → ClassId} {ws : va_W} {as : List Value} {sz : Nat} : FrameBlind (tq_Pc D cA ws as sz) := fun a U g mk q => by
  obtain ⟨q0, q1, q2, q3, q4, q5, q6⟩ := q
  exact ⟨q0, q1, q2, va_K.moved (u := U) (U := U.calling g mk a) (Vm.Alike.refl U.vm) q3, q4, ⟨vx_Zq.moved (u := U) (U := U.calling g mk a) (Vm.Alike.refl U.vm) q5.1, vx_Zq.moved (u := U) (U := U.calling g mk a) (Vm.Alike.refl U.vm) q5.2⟩, tq_bx.same (u := U) (U := U.calling g mk a) rfl q6⟩
section TQ5
variable {l : Launch} {M : tq_M} {d bc bs : Nat} {Q : tq_R → tq_H → Prop} {pc : Nat} {L : List (Nat × Value)} {S : List Value} {h : tq_H}
variable {p : Program} {e : Env} {R : Room} {s : State} {m : MethodId} {args : Array Value} {below : List Frame} {meth : Method} {c : Code} {D : va_G} {cA : Nat → ClassId} {A : Nat → Prop} {ad0 : List Nat} {mc ms : Nat} {H : Heap} {locs : List Loc} {cells slots : Nat} {ws : va_W} {ls : Array Slot} {S' : List Value}
theorem tq_pcok {nL : Nat} (X : tq_cx l M d p R s m args meth c D cA A mc ms) (Y : tq_dy nL D cA A ad0 s.heap h L S H locs ws ls S') (as : List Value) : ∀ U : State, U.heap = H → s.WarmedH U.vm → tq_Pc D cA ws as H.size as.toArray U := by
  intro U hU hW
  refine ⟨rfl, by rw [hU], by rw [hU]; exact Y.1, va_K.moved hW.alike X.2.2.2.2.2.2.2.1, Y.2.1.weaken (fun _ _ _ _ => trivial), ?_, X.2.2.2.2.2.2.2.2.2.2.2.2.2.2.2.2.1.warm hW⟩
  rw [hU]
  exact X.2.2.2.2.2.2.2.2.2.2.2.2.2.1.now Y.2.2.1 (tq_A1 Y.2.1 Y.2.2.1 X.2.2.2.2.2.2.2.2.2.2.2.2.1) hW
/-- behind a call's run: it returned, or threw -/
theorem tq_ran {Q1 : tq_R → tq_H → Prop} {b1 s1 : Nat} {a : Array Value} {st0 : List Value} (X : tq_cx l M d p R s m args meth c D cA A mc ms) (Y : tq_dy M.2.2.1 D cA A ad0 s.heap h L S H locs ws ls S')
    (hr : vx_Run p l e R s m args below meth c H locs cells slots b1 s1 (F0 m pc ls st0) S' (tq_Qc D cA (va_A ws H.size) (tq_ad ws) Q1 a) (tq_XC D cA (va_A ws H.size) (tq_ad ws) Q1) (va_A ws H.size))
    (hc : cells + b1 + bc ≤ mc) (hs : slots + s1 + bs ≤ ms) (kx : ∀ E h1, Q1 (.inr E) h1 → tq_X l M d bc bs Q E pc L h1) (kk : ∀ v h1, Q1 (.inl v) h1 → tq_W l M d bc bs Q (pc + 3) L (v.toList ++ S) h1) :
    W p l e R s m args below meth c H locs cells slots (vx_MQ below (tq_Qc D cA A ad0 Q) (tq_XC D cA A ad0 Q) args s mc ms A) (F0 m pc ls st0) := by
  have hA1 := tq_A1 Y.2.1 Y.2.2.1 X.2.2.2.2.2.2.2.2.2.2.2.2.1
  intro T hT Xs
  rcases hr T hT Xs with ⟨v, st₀, t, T', Lc, h0, X', hL, e1, e2, ⟨hq, hF⟩, st⟩ | ⟨q, st₀, t, T', Lc, E, ce, h0, X', hL, e1, e2, ⟨⟨h1, hq, ws1, P1, D1, w1, pre⟩, hF⟩, hce, hcv, hcl, st⟩
  · obtain ⟨k1, k2, k3⟩ := vx_keep h0 e1 Y.2.2.1 (fun q _ h => hA1 q h) hA1 hL hF
    rcases hq with ⟨eo, h1, hq, ws1, P1, D1, w1, pre⟩ | ⟨u, w, h1, eo, hq, ws1, P1, D1, w1, pre, hr⟩
    · cases eo
      obtain ⟨L', f1, f2⟩ := Y.2.2.2.2.2.1
      have Y1 : tq_dy M.2.2.1 D cA A ad0 s.heap h1 L S T'.heap (locs ++ Lc) ws1 ls S' := ⟨by rw [e1]; exact P1, D1.weaken (fun k q _ h => hA1 q.1 h), k3, w1, List.IsPrefix.trans Y.2.2.2.2.1 pre, ⟨L', f1, f2.mono fun _ _ q => ⟨q.1, q.2.mono pre⟩⟩, Y.2.2.2.2.2.2.mono fun _ _ q => q.mono pre⟩
      obtain ⟨t2, a1, b1⟩ := kk none h1 hq X Y1 hc hs T' rfl X'
      exact ⟨t2, st t2 a1, b1⟩
    · cases eo
      obtain ⟨L', f1, f2⟩ := Y.2.2.2.2.2.1
      have Y1 : tq_dy M.2.2.1 D cA A ad0 s.heap h1 L (u :: S) T'.heap (locs ++ Lc) ws1 ls (w :: S') := ⟨by rw [e1]; exact P1, D1.weaken (fun k q _ h => hA1 q.1 h), k3, w1, List.IsPrefix.trans Y.2.2.2.2.1 pre, ⟨L', f1, f2.mono fun _ _ q => ⟨q.1, q.2.mono pre⟩⟩, hr, Y.2.2.2.2.2.2.mono fun _ _ q => q.mono pre⟩
      obtain ⟨t2, a1, b1⟩ := kk (some u) h1 hq X Y1 hc hs T' rfl X'
      exact ⟨t2, st t2 a1, b1⟩
  · obtain ⟨k1, k2, k3⟩ := vx_keep h0 e1 Y.2.2.1 (fun q _ h => hA1 q h) hA1 hL hF
    obtain ⟨L', f1, f2⟩ := Y.2.2.2.2.2.1
    have Y1 : tq_dy M.2.2.1 D cA A ad0 s.heap h1 L [] T'.heap (locs ++ Lc) ws1 ls [] := ⟨by rw [e1]; exact P1, D1.weaken (fun k q _ h => hA1 q.1 h), k3, w1, List.IsPrefix.trans Y.2.2.2.2.1 pre, ⟨L', f1, f2.mono fun _ _ q => ⟨q.1, q.2.mono pre⟩⟩, trivial⟩
    obtain ⟨t2, a1, b1⟩ := kx E h1 hq X Y1 hc hs (by rw [e1]; exact hce) hcv hcl T' rfl X'
    exact ⟨t2, st.trans a1, b1⟩
theorem tq_cats {ad : List Nat} : ∀ {S S' : List Value}, tq_al (tq_vr ad) S S' → (S'.map fun v => v.category) = (S.map fun v => v.category)
  | [], [], _ => rfl
  | _ :: _, _ :: _, q => by simp only [List.map_cons]; rw [q.1.cat, tq_cats q.2]
  | [], _ :: _, q => q.elim
  | _ :: _, [], q => q.elim
theorem tq_callB {y : MethodName} {cc : ByteArray} {nL : Nat} {ret : Option FieldType} {n idx d1 b1 s1 : Nat} (X : tq_cx l M d p R s m args meth c D cA A mc ms) (hy : tq_yok y cc nL ret n) (hl : Cond.methodLink M.1 idx y ∈ tq_G) (hd1 : d1 + 1 ≤ d) :
    CallB R s args M.1 idx y cc nL ret (Cond.code y cc nL ret :: tq_G) (tq_rm d1 b1 s1) b1 s1 n := by
  have hts := X.2.2.2.2.2.2.1
  obtain ⟨h1, h2, h3, h4, h5⟩ := hy
  refine ⟨rfl, rfl, by rw [X.2.2.2.2.2.2.2.2.1]; exact hd1, ?_, tq_word hts h1, List.mem_cons_self, hts _ h1, hts _ h2, h3, fun sig hsig => ?_, hts _ hl⟩
  · rw [X.2.2.2.2.2.2.2.2.2.1]
    show 8 + (nL + 11) + (38 * d1 + 20) ≤ _
    omega
  · rw [hsig] at h4
    exact (Option.some.inj h4).symm
end TQ5
section TQ6
variable {l : Launch} {M : tq_M} {d bc bs : Nat} {Q : tq_R → tq_H → Prop} {pc : Nat} {L : List (Nat × Value)} {S : List Value} {h : tq_H}
theorem tq_hsz {nL : Nat} {D : va_G} {cA : Nat → ClassId} {A : Nat → Prop} {ad0 : List Nat} {H0 H : Heap} {locs : List Loc} {ws : va_W} {ls : Array Slot} {S' : List Value} (Y : tq_dy nL D cA A ad0 H0 h L S H locs ws ls S') : ls.size = nL := by
  obtain ⟨L', h1, -⟩ := Y.2.2.2.2.2.1
  exact h1.1
/-- a call of an object's method -/
theorem tq_calV {y : MethodName} {cc : ByteArray} {nL : Nat} {ret : Option FieldType} {n idx : Nat} (hy : tq_yok y cc nL ret n) (hv : tq_vok y) (hl : Cond.methodLink M.1 idx y ∈ tq_G) (hd : decode M.2.1 pc = .ok (.invokevirtual idx, 3)) (as : List Value) (hn : as.length = n) {S0 : List Value} (hS0 : S0 = as.reverse ++ S) {q ci N : Nat} {T : u_T} {fs : List Value} (ho : h.2 q = .inl (ci, fs)) (hci : tq_cl[ci]? = some (y.cls, T, N)) (hS : (S.map fun v => v.category).sum ≤ 8)
    {d1 b1 s1 bc' bs' : Nat} (hd1 : d1 + 1 ≤ d) (hb : b1 + bc' = bc) (hs1 : s1 + bs' = bs) {Q1 : tq_R → tq_H → Prop} (hC : tq_C l y cc nL ret d1 b1 s1 (.ref q :: as) h Q1)
    (kx : ∀ E h1, Q1 (.inr E) h1 → tq_X l M d bc' bs' Q E pc L h1) (kk : ∀ v h1, Q1 (.inl v) h1 → tq_W l M d bc' bs' Q (pc + 3) L (v.toList ++ S) h1) : tq_W l M d bc bs Q pc L (as.reverse ++ .ref q :: S) h := by
  subst hb; subst hs1
  intro p e R s m args below meth c D cA A ad0 mc ms X H locs cells slots ws ls S' Y hc hs
  obtain ⟨R1, R2, rfl, r1, r2⟩ := tq_al.cut Y.2.2.2.2.2.2
  cases R2 with
  | nil => exact r2.elim
  | cons w S1 =>
    obtain ⟨⟨a, ha, rfl⟩, r3⟩ := r2
    obtain ⟨x, e1, e2⟩ := Y.2.2.2.1.get ha
    rw [ho] at e2
    obtain ⟨gs, rfl, e3⟩ := e2
    have Y1 : tq_dy M.2.2.1 D cA A ad0 s.heap h L S H locs ws ls S1 := ⟨Y.1, Y.2.1, Y.2.2.1, Y.2.2.2.1, Y.2.2.2.2.1, Y.2.2.2.2.2.1, r3⟩
    have hR : R1 = R1.reverse.reverse := (List.reverse_reverse _).symm
    have hal : tq_al (tq_vr (tq_ad ws)) (.ref q :: as) (.ref a :: R1.reverse) := ⟨⟨a, ha, rfl⟩, by
      have := r1.rev
      rwa [List.reverse_reverse] at this⟩
    have hM := hC X.2.2.2.2.2.2.2.2.2.2.2.2.2.2.2.2.2 D cA ws (.ref a :: R1.reverse) H.size Y.2.2.2.1 hal
    have hts := X.2.2.2.2.2.2.1
    refine tq_ran X Y1 (vx_runV (g := F0 m pc ls (R1 ++ .ref a :: S1)) (C := y.cls) (b := a) (As := R1.reverse) (rest := S1) (Ts := tq_G) (n := n) ⟨X.1, X.2.1, X.2.2.1, X.2.2.2.2.2.1, hts⟩ hM ⟨tq_callB X hy hl hd1, hts _ hv.1, hts _ hv.2⟩ ⟨tq_blind, ?_, ?_⟩ rfl ?_ ?_ ?_ ?_ hd ⟨?_, ?_⟩) (by omega) (by omega) kx kk
    · exact va_recv X.2.2.2.2.2.2.2.1 Y.1 hci e1
    · exact tq_pcok X Y (.ref a :: R1.reverse)
    · rw [List.length_reverse, ← r1.len, List.length_reverse]; exact hn
    · exact tq_hsz Y
    · rw [List.reverse_reverse]
    · show 2 * 0 + _ ≤ 8
      rw [tq_cats r3]; omega
    · have := X.2.2.2.2.2.2.2.2.2.2.1; omega
    · have := X.2.2.2.2.2.2.2.2.2.2.2.1; omega
/-- a call of a class's own method -/
theorem tq_calS {y : MethodName} {cc : ByteArray} {nL : Nat} {ret : Option FieldType} {n idx : Nat} (hy : tq_yok y cc nL ret n) (hv : Cond.static y ∈ tq_G) (hl : Cond.methodLink M.1 idx y ∈ tq_G) (hd : decode M.2.1 pc = .ok (.invokestatic idx, 3)) (as : List Value) (hn : as.length = n) (hS : (S.map fun v => v.category).sum ≤ 8)
    {d1 b1 s1 bc' bs' : Nat} (hd1 : d1 + 1 ≤ d) (hb : b1 + bc' = bc) (hs1 : s1 + bs' = bs) {Q1 : tq_R → tq_H → Prop} (hC : tq_C l y cc nL ret d1 b1 s1 as h Q1)
    (kx : ∀ E h1, Q1 (.inr E) h1 → tq_X l M d bc' bs' Q E pc L h1) (kk : ∀ v h1, Q1 (.inl v) h1 → tq_W l M d bc' bs' Q (pc + 3) L (v.toList ++ S) h1) : tq_W l M d bc bs Q pc L (as.reverse ++ S) h := by
  subst hb; subst hs1
  intro p e R s m args below meth c D cA A ad0 mc ms X H locs cells slots ws ls S' Y hc hs
  obtain ⟨R1, S1, rfl, r1, r3⟩ := tq_al.cut Y.2.2.2.2.2.2
  have Y1 : tq_dy M.2.2.1 D cA A ad0 s.heap h L S H locs ws ls S1 := ⟨Y.1, Y.2.1, Y.2.2.1, Y.2.2.2.1, Y.2.2.2.2.1, Y.2.2.2.2.2.1, r3⟩
  have hal : tq_al (tq_vr (tq_ad ws)) as R1.reverse := by
    have := r1.rev
    rwa [List.reverse_reverse] at this
  have hM := hC X.2.2.2.2.2.2.2.2.2.2.2.2.2.2.2.2.2 D cA ws R1.reverse H.size Y.2.2.2.1 hal
  have hts := X.2.2.2.2.2.2.1
  refine tq_ran X Y1 (vx_runS (g := F0 m pc ls (R1 ++ S1)) (As := R1.reverse) (rest := S1) (Ts := tq_G) (n := n) ⟨X.1, X.2.1, X.2.2.1, X.2.2.2.2.2.1, hts⟩ hM ⟨tq_callB X hy hl hd1, hts _ hv⟩ ⟨tq_blind, ?_⟩ rfl ?_ ?_ ?_ ?_ hd ⟨?_, ?_⟩) (by omega) (by omega) kx kk
  · exact tq_pcok X Y R1.reverse
  · rw [List.length_reverse, ← r1.len, List.length_reverse]; exact hn
  · exact tq_hsz Y
  · rw [List.reverse_reverse]
  · show 2 * 0 + _ ≤ 8
    rw [tq_cats r3]; omega
  · have := X.2.2.2.2.2.2.2.2.2.2.1; omega
  · have := X.2.2.2.2.2.2.2.2.2.2.2.1; omega
end TQ6
end
section
/-! ===== constructors, throws, System.arraycopy ===== -/
theorem tq_met {l : Launch} {y : MethodName} {ws : List Cond} {rm : Room} {Pc : Array Value → State → Prop} {Qc : Array Value → State → Outcome → State → Prop} {XC : String → State → State → Prop} {mc ms : Nat} {free : Addr → Prop} (hM : vx_Met l y ws rm Pc Qc XC mc ms free) (hx : ∀ E st t, ¬ XC E st t) : Met l y ws rm Pc Qc mc ms free := by
  intro p e ha hc hk s m args below hf happ hP hz
  obtain ⟨n, o, h1, h2, h3, hQ⟩ := hM p e ha hc hk s m args below hf happ hP hz
  refine ⟨n, o, h1, h2, h3, ?_⟩
  rcases hQ with hQ | ⟨q, -, E, ce, L, hX, -⟩
  · exact hQ
  · exact (hx _ _ _ hX).elim
theorem tq_vrun {p : Program} {l : Launch} {e : Env} {R : Room} {s : State} {m : MethodId} {args : Array Value} {below : List Frame} {meth : Method} {c : Code} {H : Heap} {locs : List Loc} {cells slots mc ms : Nat} {g : JFrame} {rest : List Value} {Qa : State → Outcome → State → Prop} {XC : String → State → State → Prop} {free : Addr → Prop} (h : va_Run p l e R s m args below meth c H locs cells slots mc ms g rest Qa free) : vx_Run p l e R s m args below meth c H locs cells slots mc ms g rest Qa XC free := fun T hT X => Or.inl (h T hT X)
section TQ7
variable {l : Launch} {M : tq_M} {d bc bs : Nat} {Q : tq_R → tq_H → Prop} {pc : Nat} {L : List (Nat × Value)} {S : List Value} {h : tq_H}
/-- a call of a constructor: it makes no throw -/
theorem tq_calI {y : MethodName} {cc : ByteArray} {nL n idx : Nat} (hy : tq_yok y cc nL none n) (hi : Cond.instanceMethod y ∈ tq_G) (hy1 : y.name = "<init>") (hl : Cond.methodLink M.1 idx y ∈ tq_G ∨ ∃ host, Cond.methodLinkNest M.1 idx y host ∈ tq_B) (hd : decode M.2.1 pc = .ok (.invokespecial idx, 3)) (as : List Value) (hn : as.length = n) {q : Nat} (hS : (S.map fun v => v.category).sum ≤ 8)
    {d1 b1 s1 bc' bs' : Nat} (hd1 : d1 + 1 ≤ d) (hb : b1 + bc' = bc) (hs1 : s1 + bs' = bs) {Q1 : tq_R → tq_H → Prop} (hC : tq_C l y cc nL none d1 b1 s1 (.ref q :: as) h Q1)
    (hx : ∀ E h1, ¬ Q1 (.inr E) h1) (kk : ∀ v h1, Q1 (.inl v) h1 → tq_W l M d bc' bs' Q (pc + 3) L (v.toList ++ S) h1) : tq_W l M d bc bs Q pc L (as.reverse ++ .ref q :: S) h := by
  subst hb; subst hs1
  intro p e R s m args below meth c D cA A ad0 mc ms X H locs cells slots ws ls S' Y hc hs
  obtain ⟨R1, R2, rfl, r1, r2⟩ := tq_al.cut Y.2.2.2.2.2.2
  cases R2 with
  | nil => exact r2.elim
  | cons w S1 =>
    obtain ⟨⟨a, ha, rfl⟩, r3⟩ := r2
    have Y1 : tq_dy M.2.2.1 D cA A ad0 s.heap h L S H locs ws ls S1 := ⟨Y.1, Y.2.1, Y.2.2.1, Y.2.2.2.1, Y.2.2.2.2.1, Y.2.2.2.2.2.1, r3⟩
    have hal : tq_al (tq_vr (tq_ad ws)) (.ref q :: as) (.ref a :: R1.reverse) := ⟨⟨a, ha, rfl⟩, by
      have := r1.rev
      rwa [List.reverse_reverse] at this⟩
    have hM := tq_met (hC X.2.2.2.2.2.2.2.2.2.2.2.2.2.2.2.2.2 D cA ws (.ref a :: R1.reverse) H.size Y.2.2.2.1 hal) (fun E st t z => by obtain ⟨⟨h1, z, -⟩, -⟩ := z; exact hx _ _ z)
    have hts := X.2.2.2.2.2.2.1
    have e1 : (R1.reverse).length = n := by rw [List.length_reverse, ← r1.len, List.length_reverse]; exact hn
    have e2 : 2 * (F0 m pc ls (R1 ++ .ref a :: S1)).monitorRoom + (S1.map fun v => v.category).sum ≤ 8 := by
      show 2 * 0 + _ ≤ 8
      rw [tq_cats r3]; omega
    have f1 := X.2.2.2.2.2.2.2.2.2.2.1
    have f2 := X.2.2.2.2.2.2.2.2.2.2.2.1
    rcases hl with hl | ⟨host, hl⟩
    · exact tq_ran X Y1 (tq_vrun (va_runI (g := F0 m pc ls (R1 ++ .ref a :: S1)) (b := a) (As := R1.reverse) (rest := S1) (Ts := tq_G) (n := n) ⟨X.1, X.2.1, X.2.2.1, X.2.2.2.2.2.1, hts⟩ hM ⟨tq_callB X hy hl hd1, hy1, hts _ hi⟩ ⟨tq_blind, tq_pcok X Y (.ref a :: R1.reverse)⟩ rfl e1 (tq_hsz Y) (by rw [List.reverse_reverse]) e2 hd ⟨by omega, by omega⟩)) (by omega) (by omega) (fun E h1 z => (hx E h1 z).elim) kk
    · obtain ⟨h1, h2, h3, h4, h5⟩ := hy
      have hCN : va_CN R s args M.1 idx y host cc nL none (Cond.code y cc nL none :: tq_G) (tq_rm d1 b1 s1) b1 s1 n := by
        refine ⟨⟨rfl, rfl, by rw [X.2.2.2.2.2.2.2.2.1]; exact hd1, ?_, tq_word hts h1, List.mem_cons_self⟩, hts _ h1, hts _ h2, h3, fun sig hsig => ?_, va_Nw.use rfl (X.2.2.2.2.2.2.2.2.2.2.2.2.2.2.2.2.1.1 _ hl)⟩
        · rw [X.2.2.2.2.2.2.2.2.2.1]
          show 8 + (nL + 11) + (38 * d1 + 20) ≤ _
          omega
        · rw [hsig] at h4
          exact (Option.some.inj h4).symm
      exact tq_ran X Y1 (tq_vrun (va_runIN (g := F0 m pc ls (R1 ++ .ref a :: S1)) (host := host) (b := a) (As := R1.reverse) (rest := S1) (Ts := tq_G) (n := n) ⟨X.1, X.2.1, X.2.2.1, X.2.2.2.2.2.1, hts⟩ hM ⟨hCN, hy1, hts _ hi⟩ ⟨tq_blind, tq_pcok X Y (.ref a :: R1.reverse)⟩ rfl e1 (tq_hsz Y) (by rw [List.reverse_reverse]) e2 hd ⟨by omega, by omega⟩)) (by omega) (by omega) (fun E h1 z => (hx E h1 z).elim) kk
/-- the three classes of exceptions, with the entries of the class's file that make them -/
def tq_ex : List (String × Nat × Nat) := [("java/lang/IndexOutOfBoundsException", 440, 444), ("java/lang/IllegalArgumentException", 268, 272), ("java/lang/IllegalStateException", 149, 153)]
def tq_ch : List String := ["java/lang/RuntimeException", "java/lang/Exception"]
theorem tq_ex_g : ∀ q ∈ tq_ex, ∀ w ∈ Cond.classLink RX10 q.2.1 q.1 :: Cond.initialized q.1 :: (vx_atS RX10 q.2.2 q.1 tq_ch).filter goodWord, w ∈ tq_G := by decide +kernel
theorem tq_ex_b : ∀ q ∈ tq_ex, ∀ w ∈ (vx_atS RX10 q.2.2 q.1 tq_ch).filter (fun w => !goodWord w), w ∈ tq_B := by decide +kernel
theorem tq_ex_o : ∀ q ∈ tq_ex, ∀ w ∈ Cond.classLink RX10 q.2.1 q.1 :: Cond.initialized q.1 :: vx_atS RX10 q.2.2 q.1 tq_ch, vx_ot w = true := by decide +kernel
theorem tq_ex_f : ∀ q ∈ tq_ex, Bundle.fit q.1 = true := by decide +kernel
theorem tq_ch_f : ∀ q ∈ tq_ch, Bundle.fit q = true := by decide +kernel
theorem tq_Bo : ∀ w ∈ tq_B, w.onTables = true := by
  intro w hw
  have h2 := (List.mem_filter.mp hw).2
  cases w <;> first | (cases h2; done) | rfl
/-- 'throw new E("..")' -/
theorem tq_throw {E : String} {ik ic : Nat} (hE : (E, ik, ic) ∈ tq_ex) {is : Nat} {text : String} (hst : (is, text) ∈ tq_str) (hM : M.1 = RX10) (hM2 : M.2.2.2.2.2 = []) (d0 : decode M.2.1 pc = .ok (.new ik, 3)) (d3 : decode M.2.1 (pc + 3) = .ok (.dup, 1)) (d4 : decode M.2.1 (pc + 4) = .ok (.ldc_w is, 3)) (d7 : decode M.2.1 (pc + 7) = .ok (.invokespecial ic, 3)) (d10 : decode M.2.1 (pc + 10) = .ok (.athrow, 1))
    (hdp : 6 ≤ d) (hb : 1 ≤ bc) (hs6 : 6 ≤ bs) (q : Q (.inr E) h) : tq_W l M d bc bs Q pc L [] h := by
  intro p e R s m args below meth c D cA A ad0 mc ms X H locs cells slots ws ls S' Y hc hs
  cases List.length_eq_zero_iff.mp (tq_al.len Y.2.2.2.2.2.2).symm
  obtain ⟨sa, hsa⟩ := X.2.2.2.2.2.2.2.2.2.2.2.2.2.2.2.2.1.2.1 _ hst
  have hts := X.2.2.2.2.2.2.1
  have hg := tq_ex_g _ hE
  have hz := X.2.2.2.2.2.2.2.2.2.2.2.2.2.1
  have f1 := X.2.2.2.2.2.2.2.2.2.2.1
  have f2 := X.2.2.2.2.2.2.2.2.2.2.2.1
  have f3 := X.2.2.2.2.2.2.2.2.1
  have f4 := X.2.2.2.2.2.2.2.2.2.1
  refine vx_throwSW (own := RX10) (cls := E) (text := text) (names := tq_ch) (ik := ik) (is := is) (ic := ic) (sa := sa) (A := A) X.1 X.2.1 X.2.2.2.2.2.2.2.2.2.2.2.2.2.2.2.2.2 (hM ▸ X.2.2.2.2.2.1) (tq_ex_f _ hE) tq_ch_f (hts _ (hg _ List.mem_cons_self)) (hts _ (hg _ (List.mem_cons_of_mem _ List.mem_cons_self))) hsa ?_ (tq_ex_o _ hE) hz.1 hz.2 Y.2.2.1 ((tq_hsz Y).trans X.2.2.1.symm) d0 d3 d4 d7 d10 ?_ ?_ ?_ (by omega) (by omega) X.2.2.2.2.1 ?_ Y.2.2.1.2.2 (by omega) (by omega)
  · exact vx_hat (fun w hw => hts _ (hg w (List.mem_cons_of_mem _ (List.mem_cons_of_mem _ hw)))) (tq_ex_b _ hE) (fun w hw => va_Nw.use (tq_Bo w hw) (X.2.2.2.2.2.2.2.2.2.2.2.2.2.2.2.2.1.1 w hw))
  · intro x hx
    rw [X.2.2.2.2.2.2.2.2.2.2.2.2.2.2.2.1, hM2] at hx
    cases hx
  · show 2 + 3 < R.frames
    omega
  · show 0 + (13 * (2 + 1) + 43) ≤ R.locals
    omega
  · intro t ha hsz hq
    refine ⟨⟨h, q, ws, Y.1.kept (fun k x hx => hq _ (Y.1 k x hx).lt), Y.2.1, Y.2.2.2.1, Y.2.2.2.2.1⟩, Nat.le_trans Y.2.2.1.1 hsz, fun x hx hA => (hq x (Nat.lt_of_lt_of_le hx Y.2.2.1.1)).trans (Y.2.2.1.2.1 x hx hA)⟩
/-- the same with a short ldc -/
theorem tq_throws {E : String} {ik ic : Nat} (hE : (E, ik, ic) ∈ tq_ex) {is : Nat} {text : String} (hst : (is, text) ∈ tq_str) (hM : M.1 = RX10) (hM2 : M.2.2.2.2.2 = []) (d0 : decode M.2.1 pc = .ok (.new ik, 3)) (d3 : decode M.2.1 (pc + 3) = .ok (.dup, 1)) (d4 : decode M.2.1 (pc + 4) = .ok (.ldc is, 2)) (d7 : decode M.2.1 (pc + 6) = .ok (.invokespecial ic, 3)) (d10 : decode M.2.1 (pc + 9) = .ok (.athrow, 1))
    (hdp : 6 ≤ d) (hb : 1 ≤ bc) (hs6 : 6 ≤ bs) (q : Q (.inr E) h) : tq_W l M d bc bs Q pc L [] h := by
  intro p e R s m args below meth c D cA A ad0 mc ms X H locs cells slots ws ls S' Y hc hs
  cases List.length_eq_zero_iff.mp (tq_al.len Y.2.2.2.2.2.2).symm
  obtain ⟨sa, hsa⟩ := X.2.2.2.2.2.2.2.2.2.2.2.2.2.2.2.2.1.2.1 _ hst
  have hts := X.2.2.2.2.2.2.1
  have hg := tq_ex_g _ hE
  have hz := X.2.2.2.2.2.2.2.2.2.2.2.2.2.1
  have f1 := X.2.2.2.2.2.2.2.2.2.2.1
  have f2 := X.2.2.2.2.2.2.2.2.2.2.2.1
  have f3 := X.2.2.2.2.2.2.2.2.1
  have f4 := X.2.2.2.2.2.2.2.2.2.1
  refine vx_throwS (own := RX10) (cls := E) (text := text) (names := tq_ch) (ik := ik) (is := is) (ic := ic) (sa := sa) (A := A) X.1 X.2.1 X.2.2.2.2.2.2.2.2.2.2.2.2.2.2.2.2.2 (hM ▸ X.2.2.2.2.2.1) (tq_ex_f _ hE) tq_ch_f (hts _ (hg _ List.mem_cons_self)) (hts _ (hg _ (List.mem_cons_of_mem _ List.mem_cons_self))) hsa ?_ (tq_ex_o _ hE) hz.1 hz.2 Y.2.2.1 ((tq_hsz Y).trans X.2.2.1.symm) d0 d3 d4 d7 d10 ?_ ?_ ?_ (by omega) (by omega) X.2.2.2.2.1 ?_ Y.2.2.1.2.2 (by omega) (by omega)
  · exact vx_hat (fun w hw => hts _ (hg w (List.mem_cons_of_mem _ (List.mem_cons_of_mem _ hw)))) (tq_ex_b _ hE) (fun w hw => va_Nw.use (tq_Bo w hw) (X.2.2.2.2.2.2.2.2.2.2.2.2.2.2.2.2.1.1 w hw))
  · intro x hx
    rw [X.2.2.2.2.2.2.2.2.2.2.2.2.2.2.2.1, hM2] at hx
    cases hx
  · show 2 + 3 < R.frames
    omega
  · show 0 + (13 * (2 + 1) + 43) ≤ R.locals
    omega
  · intro t ha hsz hq
    refine ⟨⟨h, q, ws, Y.1.kept (fun k x hx => hq _ (Y.1 k x hx).lt), Y.2.1, Y.2.2.2.1, Y.2.2.2.2.1⟩, Nat.le_trans Y.2.2.1.1 hsz, fun x hx hA => (hq x (Nat.lt_of_lt_of_le hx Y.2.2.1.1)).trans (Y.2.2.1.2.1 x hx hA)⟩
theorem tq_nfw : nativeFrameWords "java/lang/System" "arraycopy" 5 + 11 ≤ 58 := by decide +kernel
/-- System.arraycopy of ints -/
theorem tq_copyi (idx : Nat) (hd : decode M.2.1 pc = .ok (.invokestatic idx, 3)) (hl : Cond.methodLink M.1 idx arraycopyName ∈ tq_G) (hnat : Cond.native arraycopyName ∈ tq_G) (hstat : Cond.static arraycopyName ∈ tq_G) (hini : Cond.initialized "java/lang/System" ∈ tq_G) {q0 q1 n0 n1 : Nat} {f g : Nat → Int32} (h0 : h.2 q0 = .inr (0, (n0, .inl f))) (h1 : h.2 q1 = .inr (0, (n1, .inl g))) {sp dp n : Int32} (g1 : ¬ sp < 0) (g2 : ¬ dp < 0) (g3 : ¬ n < 0) (g4 : sp.toNatClampNeg + n.toNatClampNeg ≤ n0) (g5 : dp.toNatClampNeg + n.toNatClampNeg ≤ n1) (hdp : 1 ≤ d)
    (k : tq_W l M d bc bs Q (pc + 3) L [] (tq_up h q1 (.inr (0, (n1, .inl (va_cpy f g sp.toNatClampNeg dp.toNatClampNeg n.toNatClampNeg)))))) : tq_W l M d bc bs Q pc L [.int n, .int dp, .ref q1, .int sp, .ref q0] h := by
  intro p e R s m args below meth c D cA A ad0 mc ms X H locs cells slots ws ls S' Y hc hs
  obtain ⟨_, rfl, Y1⟩ := tq_popI Y
  obtain ⟨_, rfl, Y2⟩ := tq_popI Y1
  obtain ⟨a1, x1, _, rfl, e1, e1', Y3⟩ := tq_popR Y2
  obtain ⟨_, rfl, Y4⟩ := tq_popI Y3
  obtain ⟨a0, x0, _, rfl, e0, e0', Y5⟩ := tq_popR Y4
  cases List.length_eq_zero_iff.mp (tq_al.len Y5.2.2.2.2.2.2).symm
  rw [h0] at e0'
  rw [h1] at e1'
  obtain ⟨y0, rfl, e3⟩ := e0'
  cases (show y0 = .inl f from e3)
  obtain ⟨y1, rfl, e4⟩ := e1'
  cases (show y1 = .inl g from e4)
  have hts := X.2.2.2.2.2.2.1
  have f3 := X.2.2.2.2.2.2.2.2.1
  have f4 := X.2.2.2.2.2.2.2.2.2.1
  exact va_copyi (D := D) X.1 X.2.1 (X.2.2.1.trans (tq_hsz Y).symm) X.2.2.2.2.2.1 (hts _ hl) (hts _ hnat) (hts _ hstat) (hts _ hini) X.2.2.2.2.2.2.2.1 Y.1 Y.2.1 Y.2.2.1 q0 q1 0 0 e0 e1 rfl rfl rfl g1 g2 g3 g4 g5 (fun i _ => rfl) (by omega) (by have := tq_nfw; simp only [List.map_nil, List.sum_nil]; omega) hd
    (fun H1 locs1 P1 D1 S1 => k X (tq_dyu Y5 e1 ⟨_, rfl, rfl⟩ P1 D1 S1) hc hs)
end TQ7
end
section
/-! ===== the words of the printed functions: what an instruction looks at, tested; loops; ends ===== -/
def tq_gr (h : tq_H) (q ci k : Nat) : Option Nat := match h.2 q with
  | .inl (c, fs) => if c = ci then (match fs[k]? with
    | some (.ref t) => some t
    | _ => none) else none
  | _ => none
def tq_gq (h : tq_H) (q ci k : Nat) : Option (Option Nat) := match h.2 q with
  | .inl (c, fs) => if c = ci then (match fs[k]? with
    | some (.ref t) => some (some t)
    | some .null => some none
    | _ => none) else none
  | _ => none
def tq_gi (h : tq_H) (q ci k : Nat) : Option Int32 := match h.2 q with
  | .inl (c, fs) => if c = ci then (match fs[k]? with
    | some (.int t) => some t
    | _ => none) else none
  | _ => none
def tq_gl (h : tq_H) (q ci k : Nat) : Option Int64 := match h.2 q with
  | .inl (c, fs) => if c = ci then (match fs[k]? with
    | some (.long t) => some t
    | _ => none) else none
  | _ => none
def tq_pf (h : tq_H) (q ci k : Nat) (v : Value) : Option tq_H := match h.2 q with
  | .inl (c, fs) => if c = ci ∧ k < fs.length then some (tq_up h q (.inl (ci, fs.set k v))) else none
  | _ => none
/-- an object's class -/
def tq_is (h : tq_H) (q ci : Nat) : Option Unit := match h.2 q with
  | .inl (c, _) => if c = ci then some () else none
  | _ => none
def tq_an (h : tq_H) (q : Nat) : Option Int32 := match h.2 q with
  | .inr (t, (n, _)) => if t < 4 then some (Int32.ofNat n) else none
  | _ => none
def tq_ai (h : tq_H) (q : Nat) (i : Int32) : Option Int32 := match h.2 q with
  | .inr (0, (n, .inl f)) => if i < 0 ∨ n ≤ i.toNatClampNeg then none else some (f i.toNatClampNeg)
  | _ => none
def tq_az (h : tq_H) (q : Nat) (i : Int32) : Option Int32 := match h.2 q with
  | .inr (1, (n, .inl f)) => if i < 0 ∨ n ≤ i.toNatClampNeg then none else some (f i.toNatClampNeg)
  | _ => none
def tq_aj (h : tq_H) (q : Nat) (i : Int32) : Option Int64 := match h.2 q with
  | .inr (2, (n, .inr (.inl f))) => if i < 0 ∨ n ≤ i.toNatClampNeg then none else some (f i.toNatClampNeg)
  | _ => none
def tq_aq (h : tq_H) (q : Nat) (i : Int32) : Option (Option Nat) := match h.2 q with
  | .inr (3, (n, .inr (.inr (.inr (.inr f))))) => if i < 0 ∨ n ≤ i.toNatClampNeg then none else some (f i.toNatClampNeg)
  | _ => none
def tq_si (h : tq_H) (q : Nat) (i x : Int32) : Option tq_H := match h.2 q with
  | .inr (0, (n, .inl f)) => if i < 0 ∨ n ≤ i.toNatClampNeg then none else some (tq_up h q (.inr (0, (n, .inl (upd f i.toNatClampNeg x)))))
  | _ => none
def tq_sz (h : tq_H) (q : Nat) (i x : Int32) : Option tq_H := match h.2 q with
  | .inr (1, (n, .inl f)) => if i < 0 ∨ n ≤ i.toNatClampNeg then none else if x = 0 ∨ x = 1 then some (tq_up h q (.inr (1, (n, .inl (upd f i.toNatClampNeg x))))) else none
  | _ => none
def tq_sl (h : tq_H) (q : Nat) (i : Int32) (x : Int64) : Option tq_H := match h.2 q with
  | .inr (2, (n, .inr (.inl f))) => if i < 0 ∨ n ≤ i.toNatClampNeg then none else some (tq_up h q (.inr (2, (n, .inr (.inl (vp_updL f i.toNatClampNeg x))))))
  | _ => none
def tq_sq (h : tq_H) (q : Nat) (i : Int32) (v : Nat) : Option tq_H := match h.2 q, h.2 v with
  | .inr (3, (n, .inr (.inr (.inr (.inr f))))), .inl (8, _) => if i < 0 ∨ n ≤ i.toNatClampNeg then none else some (tq_up h q (.inr (3, (n, .inr (.inr (.inr (.inr (va_up f i.toNatClampNeg (some v)))))))))
  | _, _ => none
def tq_cp (h : tq_H) (q0 : Nat) (sp : Int32) (q1 : Nat) (dp n : Int32) : Option tq_H := match h.2 q0, h.2 q1 with
  | .inr (0, (n0, .inl f)), .inr (0, (n1, .inl g)) => if sp < 0 ∨ dp < 0 ∨ n < 0 ∨ n0 < sp.toNatClampNeg + n.toNatClampNeg ∨ n1 < dp.toNatClampNeg + n.toNatClampNeg then none else some (tq_up h q1 (.inr (0, (n1, .inl (va_cpy f g sp.toNatClampNeg dp.toNatClampNeg n.toNatClampNeg)))))
  | _, _ => none
/-- 0 or 1 -/
def tq_bz (x : Int32) : Option Int32 := if x = 0 ∨ x = 1 then some x else none
def tq_nz (x : Int32) : Option Unit := if x = 0 then none else some ()
/-- a loop: its body goes on or ends -/
def tq_loop {σ ε : Type} (B : σ → Option (σ ⊕ ε)) : Nat → σ → Option ε
  | 0, _ => none
  | n + 1, s => match B s with
    | none => none
    | some (.inl s') => tq_loop B n s'
    | some (.inr e) => some e
/-- so many rounds no loop needs -/
def tq_N : Nat := 200000
theorem tq_loop_s {σ ε : Type} {B : σ → Option (σ ⊕ ε)} {n : Nat} {s : σ} {e : ε} (h : tq_loop B (n + 1) s = some e) : ∃ o, B s = some o ∧ ((∃ s', o = .inl s' ∧ tq_loop B n s' = some e) ∨ o = .inr e) := by
  unfold tq_loop at h
  cases hB : B s with
  | none => rw [hB] at h; cases h
  | some o =>
    rw [hB] at h
    cases o with
    | inl s' => exact ⟨_, rfl, Or.inl ⟨s', rfl, h⟩⟩
    | inr e' => cases h; exact ⟨_, rfl, Or.inr rfl⟩
theorem tq_be {α β : Type} {a : Option α} {f : α → Option β} {r : β} (h : a.bind f = some r) : ∃ x, a = some x ∧ f x = some r := by
  cases a with
  | none => cases h
  | some x => exact ⟨x, rfl, h⟩
/-- a call that may throw, and what goes on behind it -/
def tq_tb {α β : Type} (a : Option ((String ⊕ α) × tq_H)) (f : α → tq_H → Option ((String ⊕ β) × tq_H)) : Option ((String ⊕ β) × tq_H) := match a with
  | none => none
  | some (.inl E, h) => some (.inl E, h)
  | some (.inr v, h) => f v h
theorem tq_te {α β : Type} {a : Option ((String ⊕ α) × tq_H)} {f : α → tq_H → Option ((String ⊕ β) × tq_H)} {r : (String ⊕ β) × tq_H} (h : tq_tb a f = some r) : (∃ E h1, a = some (.inl E, h1) ∧ r = (.inl E, h1)) ∨ ∃ v h1, a = some (.inr v, h1) ∧ f v h1 = some r := by
  unfold tq_tb at h
  split at h
  · cases h
  · exact Or.inl ⟨_, _, rfl, (Option.some.inj h).symm⟩
  · exact Or.inr ⟨_, _, rfl, h⟩
section TQ8
variable {l : Launch} {M : tq_M} {d bc bs : Nat} {Q : tq_R → tq_H → Prop} {pc : Nat} {L : List (Nat × Value)} {S : List Value} {h : tq_H}
theorem tq_gr_s {q ci k t : Nat} (e : tq_gr h q ci k = some t) : ∃ fs, h.2 q = .inl (ci, fs) ∧ fs[k]? = some (.ref t) := by
  unfold tq_gr at e
  split at e
  · rename_i c fs hq
    split at e
    · rename_i hc
      subst hc
      split at e
      · rename_i t' ht
        cases e
        exact ⟨fs, hq, ht⟩
      · cases e
    · cases e
  · cases e
theorem tq_gi_s {q ci k : Nat} {t : Int32} (e : tq_gi h q ci k = some t) : ∃ fs, h.2 q = .inl (ci, fs) ∧ fs[k]? = some (.int t) := by
  unfold tq_gi at e
  split at e
  · rename_i c fs hq
    split at e
    · rename_i hc
      subst hc
      split at e
      · rename_i t' ht
        cases e
        exact ⟨fs, hq, ht⟩
      · cases e
    · cases e
  · cases e
theorem tq_gl_s {q ci k : Nat} {t : Int64} (e : tq_gl h q ci k = some t) : ∃ fs, h.2 q = .inl (ci, fs) ∧ fs[k]? = some (.long t) := by
  unfold tq_gl at e
  split at e
  · rename_i c fs hq
    split at e
    · rename_i hc
      subst hc
      split at e
      · rename_i t' ht
        cases e
        exact ⟨fs, hq, ht⟩
      · cases e
    · cases e
  · cases e
theorem tq_gq_s {q ci k : Nat} {t : Option Nat} (e : tq_gq h q ci k = some t) : ∃ fs, h.2 q = .inl (ci, fs) ∧ fs[k]? = some (tq_rf t) := by
  unfold tq_gq at e
  split at e
  · rename_i c fs hq
    split at e
    · rename_i hc
      subst hc
      split at e
      · rename_i t' ht
        cases e
        exact ⟨fs, hq, ht⟩
      · rename_i ht
        cases e
        exact ⟨fs, hq, ht⟩
      · cases e
    · cases e
  · cases e
theorem tq_is_s {q ci : Nat} (e : tq_is h q ci = some ()) : ∃ fs, h.2 q = .inl (ci, fs) := by
  unfold tq_is at e
  split at e
  · rename_i c fs hq
    split at e
    · rename_i hc
      subst hc
      exact ⟨fs, hq⟩
    · cases e
  · cases e
/-- a field that is read: a reference, an int, a long, a reference or null -/
theorem tq_getR {ci : Nat} {C : String} {T : u_T} {N : Nat} {ty : Nat → FieldType} (hC : tq_cok ci C T N ty) {k0 : Nat} (hk : k0 < N) {idx : Nat} (hd : decode M.2.1 pc = .ok (.getfield idx, 3)) (hw : Cond.fieldLink M.1 idx C (T k0).2.1 (T k0).2.2.1 ∈ tq_G) (hown : (T k0).1 = C) {q t : Nat} (e : tq_gr h q ci k0 = some t) (k : tq_W l M d bc bs Q (pc + 3) L (.ref t :: S) h) : tq_W l M d bc bs Q pc L (.ref q :: S) h := by
  obtain ⟨fs, h1, h2⟩ := tq_gr_s e
  exact tq_getf hC k0 hk hd hw hown h1 h2 k
theorem tq_getI {ci : Nat} {C : String} {T : u_T} {N : Nat} {ty : Nat → FieldType} (hC : tq_cok ci C T N ty) {k0 : Nat} (hk : k0 < N) {idx : Nat} (hd : decode M.2.1 pc = .ok (.getfield idx, 3)) (hw : Cond.fieldLink M.1 idx C (T k0).2.1 (T k0).2.2.1 ∈ tq_G) (hown : (T k0).1 = C) {q : Nat} {t : Int32} (e : tq_gi h q ci k0 = some t) (k : tq_W l M d bc bs Q (pc + 3) L (.int t :: S) h) : tq_W l M d bc bs Q pc L (.ref q :: S) h := by
  obtain ⟨fs, h1, h2⟩ := tq_gi_s e
  exact tq_getf hC k0 hk hd hw hown h1 h2 k
theorem tq_getL {ci : Nat} {C : String} {T : u_T} {N : Nat} {ty : Nat → FieldType} (hC : tq_cok ci C T N ty) {k0 : Nat} (hk : k0 < N) {idx : Nat} (hd : decode M.2.1 pc = .ok (.getfield idx, 3)) (hw : Cond.fieldLink M.1 idx C (T k0).2.1 (T k0).2.2.1 ∈ tq_G) (hown : (T k0).1 = C) {q : Nat} {t : Int64} (e : tq_gl h q ci k0 = some t) (k : tq_W l M d bc bs Q (pc + 3) L (.long t :: S) h) : tq_W l M d bc bs Q pc L (.ref q :: S) h := by
  obtain ⟨fs, h1, h2⟩ := tq_gl_s e
  exact tq_getf hC k0 hk hd hw hown h1 h2 k
theorem tq_getQ {ci : Nat} {C : String} {T : u_T} {N : Nat} {ty : Nat → FieldType} (hC : tq_cok ci C T N ty) {k0 : Nat} (hk : k0 < N) {idx : Nat} (hd : decode M.2.1 pc = .ok (.getfield idx, 3)) (hw : Cond.fieldLink M.1 idx C (T k0).2.1 (T k0).2.2.1 ∈ tq_G) (hown : (T k0).1 = C) {q : Nat} {t : Option Nat} (e : tq_gq h q ci k0 = some t) (k : tq_W l M d bc bs Q (pc + 3) L (tq_rf t :: S) h) : tq_W l M d bc bs Q pc L (.ref q :: S) h := by
  obtain ⟨fs, h1, h2⟩ := tq_gq_s e
  exact tq_getf hC k0 hk hd hw hown h1 h2 k
theorem tq_putv {ci : Nat} {C : String} {T : u_T} {N : Nat} {ty : Nat → FieldType} (hC : tq_cok ci C T N ty) {k0 : Nat} (hk : k0 < N) {idx : Nat} (hd : decode M.2.1 pc = .ok (.putfield idx, 3)) (hw : Cond.fieldLink M.1 idx C (T k0).2.1 (T k0).2.2.1 ∈ tq_G) (hown : (T k0).1 = C) (hfin : (T k0).2.2.2 = false ∨ (M.2.2.2.2.1 = true ∧ C = M.1))
    {q : Nat} {v : Value} {h1 : tq_H} (e : tq_pf h q ci k0 v = some h1) (hn : ∀ (ad : List Nat) (w : Value), tq_vr ad v w → narrow (ty k0) w = w ∧ fits (ty k0) w = true) (k : tq_W l M d bc bs Q (pc + 3) L S h1) : tq_W l M d bc bs Q pc L (v :: .ref q :: S) h := by
  unfold tq_pf at e
  split at e
  · rename_i c fs hq
    split at e
    · rename_i hc
      obtain ⟨rfl, hl⟩ := hc
      cases e
      exact tq_putf hC k0 hk hd hw hown hfin hq hl hn k
    · cases e
  · cases e
theorem tq_bz_s {x y : Int32} (e : tq_bz x = some y) : y = x ∧ (x = 0 ∨ x = 1) := by
  unfold tq_bz at e
  split at e
  · rename_i hx
    cases e
    exact ⟨rfl, hx⟩
  · cases e
theorem tq_nz_s {x : Int32} (e : tq_nz x = some ()) : ¬ x = 0 := by
  unfold tq_nz at e
  split at e
  · cases e
  · rename_i hx
    exact hx
theorem tq_n01 {x : Int32} (hx : x = 0 ∨ x = 1) (ad : List Nat) (w : Value) (h : tq_vr ad (.int x) w) : narrow .boolean w = w ∧ fits .boolean w = true := by
  cases (show w = .int x from h)
  rcases hx with rfl | rfl <;> exact ⟨by decide +kernel, by decide +kernel⟩
theorem tq_alenF (hd : decode M.2.1 pc = .ok (.arraylength, 1)) {q : Nat} {n : Int32} (e : tq_an h q = some n) (k : tq_W l M d bc bs Q (pc + 1) L (.int n :: S) h) : tq_W l M d bc bs Q pc L (.ref q :: S) h := by
  unfold tq_an at e
  split at e
  · rename_i t n x hq
    split at e
    · rename_i ht
      cases e
      exact tq_alen hd hq ht k
    · cases e
  · cases e
theorem tq_ialdF (hd : decode M.2.1 pc = .ok (.iaload, 1)) {q : Nat} {i x : Int32} (e : tq_ai h q i = some x) (k : tq_W l M d bc bs Q (pc + 1) L (.int x :: S) h) : tq_W l M d bc bs Q pc L (.int i :: .ref q :: S) h := by
  unfold tq_ai at e
  split at e
  · rename_i n f hq
    split at e
    · cases e
    · rename_i hi
      cases e
      exact tq_iald hd hq hi k
  · cases e
theorem tq_zaldF (hd : decode M.2.1 pc = .ok (.baload, 1)) {q : Nat} {i x : Int32} (e : tq_az h q i = some x) (k : tq_W l M d bc bs Q (pc + 1) L (.int x :: S) h) : tq_W l M d bc bs Q pc L (.int i :: .ref q :: S) h := by
  unfold tq_az at e
  split at e
  · rename_i n f hq
    split at e
    · cases e
    · rename_i hi
      cases e
      exact tq_zald hd hq hi k
  · cases e
theorem tq_laldF (hd : decode M.2.1 pc = .ok (.laload, 1)) {q : Nat} {i : Int32} {x : Int64} (e : tq_aj h q i = some x) (k : tq_W l M d bc bs Q (pc + 1) L (.long x :: S) h) : tq_W l M d bc bs Q pc L (.int i :: .ref q :: S) h := by
  unfold tq_aj at e
  split at e
  · rename_i n f hq
    split at e
    · cases e
    · rename_i hi
      cases e
      exact tq_lald hd hq hi k
  · cases e
theorem tq_aaldF (hd : decode M.2.1 pc = .ok (.aaload, 1)) {q : Nat} {i : Int32} {x : Option Nat} (e : tq_aq h q i = some x) (k : tq_W l M d bc bs Q (pc + 1) L (tq_rf x :: S) h) : tq_W l M d bc bs Q pc L (.int i :: .ref q :: S) h := by
  unfold tq_aq at e
  split at e
  · rename_i n f hq
    split at e
    · cases e
    · rename_i hi
      cases e
      exact tq_aald hd hq hi k
  · cases e
theorem tq_iastF (hd : decode M.2.1 pc = .ok (.iastore, 1)) {q : Nat} {i x : Int32} {h1 : tq_H} (e : tq_si h q i x = some h1) (k : tq_W l M d bc bs Q (pc + 1) L S h1) : tq_W l M d bc bs Q pc L (.int x :: .int i :: .ref q :: S) h := by
  unfold tq_si at e
  split at e
  · rename_i n f hq
    split at e
    · cases e
    · rename_i hi
      cases e
      exact tq_iast hd hq hi k
  · cases e
theorem tq_zastF (hd : decode M.2.1 pc = .ok (.bastore, 1)) {q : Nat} {i x : Int32} {h1 : tq_H} (e : tq_sz h q i x = some h1) (k : tq_W l M d bc bs Q (pc + 1) L S h1) : tq_W l M d bc bs Q pc L (.int x :: .int i :: .ref q :: S) h := by
  unfold tq_sz at e
  split at e
  · rename_i n f hq
    split at e
    · cases e
    · rename_i hi
      split at e
      · rename_i hx
        cases e
        exact tq_zast hd hq hx hi k
      · cases e
  · cases e
theorem tq_lastF (hd : decode M.2.1 pc = .ok (.lastore, 1)) {q : Nat} {i : Int32} {x : Int64} {h1 : tq_H} (e : tq_sl h q i x = some h1) (k : tq_W l M d bc bs Q (pc + 1) L S h1) : tq_W l M d bc bs Q pc L (.long x :: .int i :: .ref q :: S) h := by
  unfold tq_sl at e
  split at e
  · rename_i n f hq
    split at e
    · cases e
    · rename_i hi
      cases e
      exact tq_last hd hq hi k
  · cases e
theorem tq_aastF (hd : decode M.2.1 pc = .ok (.aastore, 1)) {q : Nat} {i : Int32} {v : Nat} {h1 : tq_H} (e : tq_sq h q i v = some h1) (k : tq_W l M d bc bs Q (pc + 1) L S h1) : tq_W l M d bc bs Q pc L (.ref v :: .int i :: .ref q :: S) h := by
  unfold tq_sq at e
  split at e
  · rename_i n f fs hq hv
    split at e
    · cases e
    · rename_i hi
      cases e
      exact tq_aast hd hq hv hi k
  · cases e
theorem tq_copyF (idx : Nat) (hd : decode M.2.1 pc = .ok (.invokestatic idx, 3)) (hl : Cond.methodLink M.1 idx arraycopyName ∈ tq_G) (hnat : Cond.native arraycopyName ∈ tq_G) (hstat : Cond.static arraycopyName ∈ tq_G) (hini : Cond.initialized "java/lang/System" ∈ tq_G) {q0 q1 : Nat} {sp dp n : Int32} {h1 : tq_H} (e : tq_cp h q0 sp q1 dp n = some h1) (hdp : 1 ≤ d)
    (k : tq_W l M d bc bs Q (pc + 3) L [] h1) : tq_W l M d bc bs Q pc L [.int n, .int dp, .ref q1, .int sp, .ref q0] h := by
  unfold tq_cp at e
  split at e
  · rename_i n0 f n1 g hq0 hq1
    split at e
    · cases e
    · rename_i hi
      cases e
      simp only [not_or] at hi
      exact tq_copyi idx hd hl hnat hstat hini hq0 hq1 hi.1 hi.2.1 hi.2.2.1 (Nat.not_lt.mp hi.2.2.2.1) (Nat.not_lt.mp hi.2.2.2.2) hdp k
  · cases e
/-- fewer locals, in any order -/
theorem tq_al_pick {ad : List Nat} {L L' : List (Nat × Value)} (hal : tq_al (tq_lr ad) L L') : ∀ (ks : List Nat), tq_al (tq_lr ad) (lv_pick L ks) (lv_pick L' ks)
  | [] => trivial
  | k :: ks => by
    unfold lv_pick
    rw [List.filterMap_cons, List.filterMap_cons]
    cases hk : L[k]? with
    | none =>
      have h2 : L'[k]? = none := by
        rw [List.getElem?_eq_none_iff] at hk ⊢
        rw [← hal.len]; exact hk
      rw [h2]
      exact tq_al_pick hal ks
    | some a =>
      obtain ⟨b, hb, hr⟩ := hal.at hk
      rw [hb]
      exact ⟨hr, tq_al_pick hal ks⟩
theorem tq_pick {L2 : List (Nat × Value)} (ks : List Nat) (hL : lv_pick L ks = L2) (k : tq_W l M d bc bs Q pc L2 S h) : tq_W l M d bc bs Q pc L S h := by
  intro p e R s m args below meth c D cA A ad0 mc ms X H locs cells slots ws ls S' Y hc hs
  subst hL
  obtain ⟨L', h1, h2⟩ := Y.2.2.2.2.2.1
  exact k X (tq_dyl Y ⟨_, lv_sub h1 ks rfl, tq_al_pick h2 ks⟩) hc hs
/-- a table, at a known place, or out of it -/
theorem tq_tabC {dflt lo hi : Int} {offs : Array Int} {len : Nat} (c : Int32) (hd : decode M.2.1 pc = .ok (.tableswitch dflt lo hi offs, len)) {off : Int} (h1 : ¬ c.toInt < lo) (h2 : ¬ hi < c.toInt) (ho : offs[(c.toInt - lo).toNat]? = some off) {tgt : Nat} (ht : (pc : Int) + off = (tgt : Int)) (k : tq_W l M d bc bs Q tgt L S h) : tq_W l M d bc bs Q pc L (.int c :: S) h := by
  intro p e R s m args below meth c0 D cA A ad0 mc ms X H locs cells slots ws ls S' Y hc hs
  obtain ⟨_, rfl, Y1⟩ := tq_popI Y
  exact lv_tableIn X.1 X.2.1 hd h1 h2 ho ht (k X Y1 hc hs)
theorem tq_tabD {dflt lo hi : Int} {offs : Array Int} {len : Nat} {c : Int32} (hd : decode M.2.1 pc = .ok (.tableswitch dflt lo hi offs, len)) (h1 : c.toInt < lo ∨ hi < c.toInt) {tgt : Nat} (ht : (pc : Int) + dflt = (tgt : Int)) (k : tq_W l M d bc bs Q tgt L S h) : tq_W l M d bc bs Q pc L (.int c :: S) h := by
  intro p e R s m args below meth c0 D cA A ad0 mc ms X H locs cells slots ws ls S' Y hc hs
  obtain ⟨_, rfl, Y1⟩ := tq_popI Y
  exact lv_tableOut X.1 X.2.1 hd h1 ht (k X Y1 hc hs)
theorem tq_far {c : Int32} {n : Nat} (hn : n < 2147483648) (h : ∀ j : Nat, j < n → ¬ c = Int32.ofNat j) : c.toInt < 0 ∨ (n : Int) - 1 < c.toInt := by
  by_cases h0 : c.toInt < 0
  · exact Or.inl h0
  · by_cases h1 : (n : Int) - 1 < c.toInt
    · exact Or.inr h1
    · exfalso
      refine h c.toInt.toNat (by omega) ?_
      rw [← Int32.toInt_inj]
      have : (Int32.ofNat c.toInt.toNat).toInt = (c.toInt.toNat : Int) := nI_toInt (n := c.toInt.toNat) (by omega)
      rw [this]
      omega
end TQ8
end
section
/-! ===== names given on the way; ends ===== -/
def tq_let {α β : Type} (a : α) (f : α → β) : β := f a
theorem tq_le {α β : Type} {a : α} {f : α → Option β} {r : β} (h : tq_let a f = some r) : ∃ x, x = a ∧ f x = some r := ⟨a, rfl, h⟩
theorem tq_ifp {α : Type} {c : Prop} [Decidable c] {a b r : α} (h : (if c then a else b) = r) (hc : c) : a = r := by rw [if_pos hc] at h; exact h
theorem tq_ifn {α : Type} {c : Prop} [Decidable c] {a b r : α} (h : (if c then a else b) = r) (hc : ¬ c) : b = r := by rw [if_neg hc] at h; exact h
theorem tq_lc {σ ε : Type} {B : σ → Option (σ ⊕ ε)} {n : Nat} {s : σ} {o : ε} (h : (∃ s', (Sum.inl s : σ ⊕ ε) = .inl s' ∧ tq_loop B n s' = some o) ∨ (Sum.inl s : σ ⊕ ε) = .inr o) : tq_loop B n s = some o := by
  rcases h with ⟨s', q, h⟩ | q
  · cases q; exact h
  · cases q
theorem tq_lx {σ ε : Type} {B : σ → Option (σ ⊕ ε)} {n : Nat} {e o : ε} (h : (∃ s', (Sum.inr e : σ ⊕ ε) = .inl s' ∧ tq_loop B n s' = some o) ∨ (Sum.inr e : σ ⊕ ε) = .inr o) : o = e := by
  rcases h with ⟨s', q, -⟩ | q
  · cases q
  · cases q; rfl
def tq_enI (x : String ⊕ Int32) : tq_R := match x with
  | .inl E => .inr E
  | .inr v => .inl (some (.int v))
def tq_enL (x : String ⊕ Int64) : tq_R := match x with
  | .inl E => .inr E
  | .inr v => .inl (some (.long v))
def tq_enR (x : String ⊕ Nat) : tq_R := match x with
  | .inl E => .inr E
  | .inr v => .inl (some (.ref v))
def tq_enV (x : String ⊕ Unit) : tq_R := match x with
  | .inl E => .inr E
  | .inr _ => .inl none
theorem tk_c0 : tq_cok 0 RX0 TX0 0 tyX0 := ⟨rfl, tq_in0, tyX0_ok, nmX0⟩
theorem tk_c1 : tq_cok 1 RX1 TX1 7 tyX1 := ⟨rfl, tq_in1, tyX1_ok, nmX1⟩
theorem tk_c2 : tq_cok 2 RX2 TX2 8 tyX2 := ⟨rfl, tq_in2, tyX2_ok, nmX2⟩
theorem tk_c3 : tq_cok 3 RX3 TX3 13 tyX3 := ⟨rfl, tq_in3, tyX3_ok, nmX3⟩
theorem tk_c4 : tq_cok 4 RX4 TX4 10 tyX4 := ⟨rfl, tq_in4, tyX4_ok, nmX4⟩
theorem tk_c5 : tq_cok 5 RX5 TX5 1 tyX5 := ⟨rfl, tq_in5, tyX5_ok, nmX5⟩
theorem tk_c6 : tq_cok 6 RX6 TX6 11 tyX6 := ⟨rfl, tq_in6, tyX6_ok, nmX6⟩
theorem tk_c7 : tq_cok 7 RX7 TX7 1 tyX7 := ⟨rfl, tq_in7, tyX7_ok, nmX7⟩
theorem tk_c8 : tq_cok 8 RX8 TX8 11 tyX8 := ⟨rfl, tq_in8, tyX8_ok, nmX8⟩
theorem tk_c9 : tq_cok 9 RX9 TX9 12 tyX9 := ⟨rfl, tq_in9, tyX9_ok, nmX9⟩
theorem tk_c10 : tq_cok 10 RX10 TX10 19 tyX10 := ⟨rfl, tq_in10, tyX10_ok, nmX10⟩
theorem tk_c11 : tq_cok 11 RX11 TX11 61 tyX11 := ⟨rfl, tq_in11, tyX11_ok, nmX11⟩
def RJ13 : String := "java/lang/Long"
def RJ9 : String := "java/lang/Math"
def RJ7 : String := "java/util/Arrays"
section TQ9
variable {l : Launch} {M : tq_M} {d bc bs : Nat} {Q : tq_R → tq_H → Prop} {pc : Nat} {L : List (Nat × Value)} {S : List Value} {h : tq_H}
theorem tq_zretB (hd : decode M.2.1 pc = .ok (.ireturn, 1)) (hr : M.2.2.2.1 = some .boolean) {v z : Int32} (e : tq_bz v = some z) (q : Q (.inl (some (.int z))) h) : tq_W l M d bc bs Q pc L [.int v] h := by
  obtain ⟨e1, e2⟩ := tq_bz_s e
  subst e1
  exact tq_zret hd hr e2 q
theorem tq_putB {ci : Nat} {C : String} {T : u_T} {N : Nat} {ty : Nat → FieldType} (hC : tq_cok ci C T N ty) {k0 : Nat} (hk : k0 < N) (hty : ty k0 = .boolean) {idx : Nat} (hd : decode M.2.1 pc = .ok (.putfield idx, 3)) (hw : Cond.fieldLink M.1 idx C (T k0).2.1 (T k0).2.2.1 ∈ tq_G) (hown : (T k0).1 = C) (hfin : (T k0).2.2.2 = false ∨ (M.2.2.2.2.1 = true ∧ C = M.1))
    {q : Nat} {v z : Int32} {h1 : tq_H} (ez : tq_bz v = some z) (e : tq_pf h q ci k0 (.int z) = some h1) (k : tq_W l M d bc bs Q (pc + 3) L S h1) : tq_W l M d bc bs Q pc L (.int v :: .ref q :: S) h := by
  obtain ⟨e1, e2⟩ := tq_bz_s ez
  subst e1
  exact tq_putv hC hk hd hw hown hfin e (fun ad w hw2 => by rw [hty]; exact tq_n01 e2 ad w hw2) k
theorem tq_mmax (idx : Nat) (hd : decode M.2.1 pc = .ok (.invokestatic idx, 3)) (hl : Cond.methodLink M.1 idx Lib.Math.max.name ∈ tq_G) (hst : Cond.static Lib.Math.max.name ∈ tq_G) (hini : Cond.initialized "java/lang/Math" ∈ tq_G) (hcd : Cond.code Lib.Math.max.name Lib.Math.max.code 2 (some .int) ∈ tq_G) (hdp : 1 ≤ d) {x y : Int32} (hS : (S.map fun v => v.category).sum ≤ 8) (k : tq_W l M d bc bs Q (pc + 3) L (.int (if x < y then y else x) :: S) h) : tq_W l M d bc bs Q pc L (.int y :: .int x :: S) h := by
  intro p e R s m args below meth c D cA A ad0 mc ms X H locs cells slots ws ls S' Y hc hs
  obtain ⟨_, rfl, Y1⟩ := tq_popI Y
  obtain ⟨S2, rfl, Y2⟩ := tq_popI Y1
  have hts := X.2.2.2.2.2.2.1
  have f1 := X.2.2.2.2.2.2.2.2.2.2.1
  have f2 := X.2.2.2.2.2.2.2.2.2.2.2.1
  have f3 := X.2.2.2.2.2.2.2.2.1
  have f4 := X.2.2.2.2.2.2.2.2.2.1
  exact va_mmax X.1 X.2.1 (X.2.2.1.trans (tq_hsz Y).symm) X.2.2.2.2.2.1 (hts _ hl) (hts _ hst) (hts _ hini) (hts _ hcd) (by omega) (by rw [tq_cats Y2.2.2.2.2.2.2]; omega) (by omega) (by omega) hd (k X (tq_psh Y2 rfl) hc hs)
theorem tq_mmin (idx : Nat) (hd : decode M.2.1 pc = .ok (.invokestatic idx, 3)) (hl : Cond.methodLink M.1 idx Lib.Math.min.name ∈ tq_G) (hst : Cond.static Lib.Math.min.name ∈ tq_G) (hini : Cond.initialized "java/lang/Math" ∈ tq_G) (hcd : Cond.code Lib.Math.min.name Lib.Math.min.code 2 (some .int) ∈ tq_G) (hdp : 1 ≤ d) {x y : Int32} (hS : (S.map fun v => v.category).sum ≤ 8) (k : tq_W l M d bc bs Q (pc + 3) L (.int (if y < x then y else x) :: S) h) : tq_W l M d bc bs Q pc L (.int y :: .int x :: S) h := by
  intro p e R s m args below meth c D cA A ad0 mc ms X H locs cells slots ws ls S' Y hc hs
  obtain ⟨_, rfl, Y1⟩ := tq_popI Y
  obtain ⟨S2, rfl, Y2⟩ := tq_popI Y1
  have hts := X.2.2.2.2.2.2.1
  have f1 := X.2.2.2.2.2.2.2.2.2.2.1
  have f2 := X.2.2.2.2.2.2.2.2.2.2.2.1
  have f3 := X.2.2.2.2.2.2.2.2.1
  have f4 := X.2.2.2.2.2.2.2.2.2.1
  exact va_mmin X.1 X.2.1 (X.2.2.1.trans (tq_hsz Y).symm) X.2.2.2.2.2.1 (hts _ hl) (hts _ hst) (hts _ hini) (hts _ hcd) (by omega) (by rw [tq_cats Y2.2.2.2.2.2.2]; omega) (by omega) (by omega) hd (k X (tq_psh Y2 rfl) hc hs)
end TQ9
theorem tk_max_s : Cond.static Lib.Math.max.name ∈ tq_G := tq_g (i := 508) (by decide +kernel) rfl
theorem tk_max_c : Cond.code Lib.Math.max.name Lib.Math.max.code 2 (some .int) ∈ tq_G := tq_g (i := 509) (by decide +kernel) rfl
theorem tk_min_s : Cond.static Lib.Math.min.name ∈ tq_G := tq_g (i := 981) (by decide +kernel) rfl
theorem tk_min_c : Cond.code Lib.Math.min.name Lib.Math.min.code 2 (some .int) ∈ tq_G := tq_g (i := 982) (by decide +kernel) rfl
theorem tk_math : Cond.initialized "java/lang/Math" ∈ tq_G := tq_g (i := 131) (by decide +kernel) rfl
section TQ10
variable {l : Launch} {M : tq_M} {d bc bs : Nat} {Q : tq_R → tq_H → Prop} {pc : Nat} {L : List (Nat × Value)} {S : List Value} {h : tq_H}
theorem tq_aload_nN {n : Fin 4} (hd : decode M.2.1 pc = .ok (.aload_n n, 1)) (hl : L.lookup (n : Nat) = some .null) (k : tq_W l M d bc bs Q (pc + 1) L (.null :: S) h) : tq_W l M d bc bs Q pc L S h := by
  intro p e R s m args below meth c D cA A ad0 mc ms X H locs cells slots ws ls S' Y hc hs
  obtain ⟨w, h1, h2⟩ := tq_loc Y hl
  cases (show w = .null from h2)
  exact lv_aload_nN X.1 X.2.1 hd rfl h1 (k X (tq_psh Y rfl) hc hs)
theorem tq_astore_nN {n : Fin 4} {i : Nat} (hi : (n : Nat) = i) (hd : decode M.2.1 pc = .ok (.astore_n n, 1)) {L2 : List (Nat × Value)} (hn : i < M.2.2.1) (hL : tq_st1 L i .null = L2) (k : tq_W l M d bc bs Q (pc + 1) L2 S h) : tq_W l M d bc bs Q pc L (.null :: S) h := by
  intro p e R s m args below meth c D cA A ad0 mc ms X H locs cells slots ws ls S' Y hc hs
  obtain ⟨_, rfl, Y1⟩ := tq_popN Y
  subst hL
  obtain ⟨L', h1, h2⟩ := Y1.2.2.2.2.2.1
  exact lv_astore_nN X.1 X.2.1 hd hi h1 hn rfl (fun ls2 q => k X (tq_dyl Y1 ⟨_, q, tq_al_st1 h2 i rfl⟩) hc hs)
/-- a length for a new array -/
def tq_len (n : Int32) : Option Nat := if n < 0 then none else if n.toNatClampNeg ≤ 10000 then some n.toNatClampNeg else none
theorem tq_len_s {n : Int32} {N : Nat} (e : tq_len n = some N) : n.toNatClampNeg = N ∧ ¬ n < 0 ∧ N ≤ 10000 := by
  unfold tq_len at e
  split at e
  · cases e
  · rename_i h1
    split at e
    · rename_i h2
      cases e
      exact ⟨rfl, h1, h2⟩
    · cases e
end TQ10
end
section
/-! ===== printed by wip/whole/tools: JDK members, Bits, Row, Sets ===== -/
abbrev cX0_one : ByteArray := prog_2_method_2_code
def yX0_one : MethodName := ⟨RX0, "one", "(I)J"⟩
theorem dX0_one_0 : decode cX0_one 0 = .ok (.iload_n 0, 1) := by decide +kernel
theorem dX0_one_1 : decode cX0_one 1 = .ok (.ifCond .lt 15, 3) := by decide +kernel
theorem dX0_one_4 : decode cX0_one 4 = .ok (.iload_n 0, 1) := by decide +kernel
theorem dX0_one_5 : decode cX0_one 5 = .ok (.bipush 64, 2) := by decide +kernel
theorem dX0_one_7 : decode cX0_one 7 = .ok (.if_icmp .ge 9, 3) := by decide +kernel
theorem dX0_one_10 : decode cX0_one 10 = .ok (.lconst 1, 1) := by decide +kernel
theorem dX0_one_11 : decode cX0_one 11 = .ok (.iload_n 0, 1) := by decide +kernel
theorem dX0_one_12 : decode cX0_one 12 = .ok (.lshl, 1) := by decide +kernel
theorem dX0_one_13 : decode cX0_one 13 = .ok (.goto 4, 3) := by decide +kernel
theorem dX0_one_16 : decode cX0_one 16 = .ok (.lconst 0, 1) := by decide +kernel
theorem dX0_one_17 : decode cX0_one 17 = .ok (.lreturn, 1) := by decide +kernel
abbrev cX0_below : ByteArray := prog_2_method_3_code
def yX0_below : MethodName := ⟨RX0, "below", "(I)J"⟩
theorem dX0_below_0 : decode cX0_below 0 = .ok (.iload_n 0, 1) := by decide +kernel
theorem dX0_below_1 : decode cX0_below 1 = .ok (.ifCond .gt 5, 3) := by decide +kernel
theorem dX0_below_4 : decode cX0_below 4 = .ok (.lconst 0, 1) := by decide +kernel
theorem dX0_below_5 : decode cX0_below 5 = .ok (.lreturn, 1) := by decide +kernel
theorem dX0_below_6 : decode cX0_below 6 = .ok (.iload_n 0, 1) := by decide +kernel
theorem dX0_below_7 : decode cX0_below 7 = .ok (.bipush 64, 2) := by decide +kernel
theorem dX0_below_9 : decode cX0_below 9 = .ok (.if_icmp .lt 9, 3) := by decide +kernel
theorem dX0_below_12 : decode cX0_below 12 = .ok (.ldc2_w 9, 3) := by decide +kernel
theorem dX0_below_15 : decode cX0_below 15 = .ok (.goto 8, 3) := by decide +kernel
theorem dX0_below_18 : decode cX0_below 18 = .ok (.lconst 1, 1) := by decide +kernel
theorem dX0_below_19 : decode cX0_below 19 = .ok (.iload_n 0, 1) := by decide +kernel
theorem dX0_below_20 : decode cX0_below 20 = .ok (.lshl, 1) := by decide +kernel
theorem dX0_below_21 : decode cX0_below 21 = .ok (.lconst 1, 1) := by decide +kernel
theorem dX0_below_22 : decode cX0_below 22 = .ok (.lsub, 1) := by decide +kernel
theorem dX0_below_23 : decode cX0_below 23 = .ok (.lreturn, 1) := by decide +kernel
abbrev cX0_holds : ByteArray := prog_2_method_4_code
def yX0_holds : MethodName := ⟨RX0, "holds", "(JI)Z"⟩
theorem dX0_holds_0 : decode cX0_holds 0 = .ok (.iload_n 2, 1) := by decide +kernel
theorem dX0_holds_1 : decode cX0_holds 1 = .ok (.ifCond .lt 23, 3) := by decide +kernel
theorem dX0_holds_4 : decode cX0_holds 4 = .ok (.iload_n 2, 1) := by decide +kernel
theorem dX0_holds_5 : decode cX0_holds 5 = .ok (.bipush 64, 2) := by decide +kernel
theorem dX0_holds_7 : decode cX0_holds 7 = .ok (.if_icmp .ge 17, 3) := by decide +kernel
theorem dX0_holds_10 : decode cX0_holds 10 = .ok (.lload_n 0, 1) := by decide +kernel
theorem dX0_holds_11 : decode cX0_holds 11 = .ok (.iload_n 2, 1) := by decide +kernel
theorem dX0_holds_12 : decode cX0_holds 12 = .ok (.lushr, 1) := by decide +kernel
theorem dX0_holds_13 : decode cX0_holds 13 = .ok (.lconst 1, 1) := by decide +kernel
theorem dX0_holds_14 : decode cX0_holds 14 = .ok (.land, 1) := by decide +kernel
theorem dX0_holds_15 : decode cX0_holds 15 = .ok (.lconst 0, 1) := by decide +kernel
theorem dX0_holds_16 : decode cX0_holds 16 = .ok (.lcmp, 1) := by decide +kernel
theorem dX0_holds_17 : decode cX0_holds 17 = .ok (.ifCond .eq 7, 3) := by decide +kernel
theorem dX0_holds_20 : decode cX0_holds 20 = .ok (.iconst 1, 1) := by decide +kernel
theorem dX0_holds_21 : decode cX0_holds 21 = .ok (.goto 4, 3) := by decide +kernel
theorem dX0_holds_24 : decode cX0_holds 24 = .ok (.iconst 0, 1) := by decide +kernel
theorem dX0_holds_25 : decode cX0_holds 25 = .ok (.ireturn, 1) := by decide +kernel
abbrev cJ13_bitCount_95d88 : ByteArray := prog_18_method_50_code
def yJ13_bitCount_95d88 : MethodName := ⟨RJ13, "bitCount", "(J)I"⟩
theorem dJ13_bitCount_95d88_0 : decode cJ13_bitCount_95d88 0 = .ok (.lload_n 0, 1) := by decide +kernel
theorem dJ13_bitCount_95d88_1 : decode cJ13_bitCount_95d88 1 = .ok (.lload_n 0, 1) := by decide +kernel
theorem dJ13_bitCount_95d88_2 : decode cJ13_bitCount_95d88 2 = .ok (.iconst 1, 1) := by decide +kernel
theorem dJ13_bitCount_95d88_3 : decode cJ13_bitCount_95d88 3 = .ok (.lushr, 1) := by decide +kernel
theorem dJ13_bitCount_95d88_4 : decode cJ13_bitCount_95d88 4 = .ok (.ldc2_w 314, 3) := by decide +kernel
theorem dJ13_bitCount_95d88_7 : decode cJ13_bitCount_95d88 7 = .ok (.land, 1) := by decide +kernel
theorem dJ13_bitCount_95d88_8 : decode cJ13_bitCount_95d88 8 = .ok (.lsub, 1) := by decide +kernel
theorem dJ13_bitCount_95d88_9 : decode cJ13_bitCount_95d88 9 = .ok (.lstore_n 0, 1) := by decide +kernel
theorem dJ13_bitCount_95d88_10 : decode cJ13_bitCount_95d88 10 = .ok (.lload_n 0, 1) := by decide +kernel
theorem dJ13_bitCount_95d88_11 : decode cJ13_bitCount_95d88 11 = .ok (.ldc2_w 316, 3) := by decide +kernel
theorem dJ13_bitCount_95d88_14 : decode cJ13_bitCount_95d88 14 = .ok (.land, 1) := by decide +kernel
theorem dJ13_bitCount_95d88_15 : decode cJ13_bitCount_95d88 15 = .ok (.lload_n 0, 1) := by decide +kernel
theorem dJ13_bitCount_95d88_16 : decode cJ13_bitCount_95d88 16 = .ok (.iconst 2, 1) := by decide +kernel
theorem dJ13_bitCount_95d88_17 : decode cJ13_bitCount_95d88 17 = .ok (.lushr, 1) := by decide +kernel
theorem dJ13_bitCount_95d88_18 : decode cJ13_bitCount_95d88 18 = .ok (.ldc2_w 316, 3) := by decide +kernel
theorem dJ13_bitCount_95d88_21 : decode cJ13_bitCount_95d88 21 = .ok (.land, 1) := by decide +kernel
theorem dJ13_bitCount_95d88_22 : decode cJ13_bitCount_95d88 22 = .ok (.ladd, 1) := by decide +kernel
theorem dJ13_bitCount_95d88_23 : decode cJ13_bitCount_95d88 23 = .ok (.lstore_n 0, 1) := by decide +kernel
theorem dJ13_bitCount_95d88_24 : decode cJ13_bitCount_95d88 24 = .ok (.lload_n 0, 1) := by decide +kernel
theorem dJ13_bitCount_95d88_25 : decode cJ13_bitCount_95d88 25 = .ok (.lload_n 0, 1) := by decide +kernel
theorem dJ13_bitCount_95d88_26 : decode cJ13_bitCount_95d88 26 = .ok (.iconst 4, 1) := by decide +kernel
theorem dJ13_bitCount_95d88_27 : decode cJ13_bitCount_95d88 27 = .ok (.lushr, 1) := by decide +kernel
theorem dJ13_bitCount_95d88_28 : decode cJ13_bitCount_95d88 28 = .ok (.ladd, 1) := by decide +kernel
theorem dJ13_bitCount_95d88_29 : decode cJ13_bitCount_95d88 29 = .ok (.ldc2_w 318, 3) := by decide +kernel
theorem dJ13_bitCount_95d88_32 : decode cJ13_bitCount_95d88 32 = .ok (.land, 1) := by decide +kernel
theorem dJ13_bitCount_95d88_33 : decode cJ13_bitCount_95d88 33 = .ok (.lstore_n 0, 1) := by decide +kernel
theorem dJ13_bitCount_95d88_34 : decode cJ13_bitCount_95d88 34 = .ok (.lload_n 0, 1) := by decide +kernel
theorem dJ13_bitCount_95d88_35 : decode cJ13_bitCount_95d88 35 = .ok (.lload_n 0, 1) := by decide +kernel
theorem dJ13_bitCount_95d88_36 : decode cJ13_bitCount_95d88 36 = .ok (.bipush 8, 2) := by decide +kernel
theorem dJ13_bitCount_95d88_38 : decode cJ13_bitCount_95d88 38 = .ok (.lushr, 1) := by decide +kernel
theorem dJ13_bitCount_95d88_39 : decode cJ13_bitCount_95d88 39 = .ok (.ladd, 1) := by decide +kernel
theorem dJ13_bitCount_95d88_40 : decode cJ13_bitCount_95d88 40 = .ok (.lstore_n 0, 1) := by decide +kernel
theorem dJ13_bitCount_95d88_41 : decode cJ13_bitCount_95d88 41 = .ok (.lload_n 0, 1) := by decide +kernel
theorem dJ13_bitCount_95d88_42 : decode cJ13_bitCount_95d88 42 = .ok (.lload_n 0, 1) := by decide +kernel
theorem dJ13_bitCount_95d88_43 : decode cJ13_bitCount_95d88 43 = .ok (.bipush 16, 2) := by decide +kernel
theorem dJ13_bitCount_95d88_45 : decode cJ13_bitCount_95d88 45 = .ok (.lushr, 1) := by decide +kernel
theorem dJ13_bitCount_95d88_46 : decode cJ13_bitCount_95d88 46 = .ok (.ladd, 1) := by decide +kernel
theorem dJ13_bitCount_95d88_47 : decode cJ13_bitCount_95d88 47 = .ok (.lstore_n 0, 1) := by decide +kernel
theorem dJ13_bitCount_95d88_48 : decode cJ13_bitCount_95d88 48 = .ok (.lload_n 0, 1) := by decide +kernel
theorem dJ13_bitCount_95d88_49 : decode cJ13_bitCount_95d88 49 = .ok (.lload_n 0, 1) := by decide +kernel
theorem dJ13_bitCount_95d88_50 : decode cJ13_bitCount_95d88 50 = .ok (.bipush 32, 2) := by decide +kernel
theorem dJ13_bitCount_95d88_52 : decode cJ13_bitCount_95d88 52 = .ok (.lushr, 1) := by decide +kernel
theorem dJ13_bitCount_95d88_53 : decode cJ13_bitCount_95d88 53 = .ok (.ladd, 1) := by decide +kernel
theorem dJ13_bitCount_95d88_54 : decode cJ13_bitCount_95d88 54 = .ok (.lstore_n 0, 1) := by decide +kernel
theorem dJ13_bitCount_95d88_55 : decode cJ13_bitCount_95d88 55 = .ok (.lload_n 0, 1) := by decide +kernel
theorem dJ13_bitCount_95d88_56 : decode cJ13_bitCount_95d88 56 = .ok (.l2i, 1) := by decide +kernel
theorem dJ13_bitCount_95d88_57 : decode cJ13_bitCount_95d88 57 = .ok (.bipush 127, 2) := by decide +kernel
theorem dJ13_bitCount_95d88_59 : decode cJ13_bitCount_95d88 59 = .ok (.iand, 1) := by decide +kernel
theorem dJ13_bitCount_95d88_60 : decode cJ13_bitCount_95d88 60 = .ok (.ireturn, 1) := by decide +kernel
abbrev cX0_lowest : ByteArray := prog_2_method_5_code
def yX0_lowest : MethodName := ⟨RX0, "lowest", "(J)I"⟩
theorem dX0_lowest_0 : decode cX0_lowest 0 = .ok (.lload_n 0, 1) := by decide +kernel
theorem dX0_lowest_1 : decode cX0_lowest 1 = .ok (.lconst 0, 1) := by decide +kernel
theorem dX0_lowest_2 : decode cX0_lowest 2 = .ok (.lcmp, 1) := by decide +kernel
theorem dX0_lowest_3 : decode cX0_lowest 3 = .ok (.ifCond .ne 7, 3) := by decide +kernel
theorem dX0_lowest_6 : decode cX0_lowest 6 = .ok (.iconst (-1), 1) := by decide +kernel
theorem dX0_lowest_7 : decode cX0_lowest 7 = .ok (.goto 12, 3) := by decide +kernel
theorem dX0_lowest_10 : decode cX0_lowest 10 = .ok (.lload_n 0, 1) := by decide +kernel
theorem dX0_lowest_11 : decode cX0_lowest 11 = .ok (.lload_n 0, 1) := by decide +kernel
theorem dX0_lowest_12 : decode cX0_lowest 12 = .ok (.lneg, 1) := by decide +kernel
theorem dX0_lowest_13 : decode cX0_lowest 13 = .ok (.land, 1) := by decide +kernel
theorem dX0_lowest_14 : decode cX0_lowest 14 = .ok (.lconst 1, 1) := by decide +kernel
theorem dX0_lowest_15 : decode cX0_lowest 15 = .ok (.lsub, 1) := by decide +kernel
theorem dX0_lowest_16 : decode cX0_lowest 16 = .ok (.invokestatic 11, 3) := by decide +kernel
theorem dX0_lowest_19 : decode cX0_lowest 19 = .ok (.ireturn, 1) := by decide +kernel
abbrev cX0_memberAt : ByteArray := prog_2_method_6_code
def yX0_memberAt : MethodName := ⟨RX0, "memberAt", "(JI)I"⟩
theorem dX0_memberAt_0 : decode cX0_memberAt 0 = .ok (.iload_n 2, 1) := by decide +kernel
theorem dX0_memberAt_1 : decode cX0_memberAt 1 = .ok (.ifCond .lt 11, 3) := by decide +kernel
theorem dX0_memberAt_4 : decode cX0_memberAt 4 = .ok (.iload_n 2, 1) := by decide +kernel
theorem dX0_memberAt_5 : decode cX0_memberAt 5 = .ok (.lload_n 0, 1) := by decide +kernel
theorem dX0_memberAt_6 : decode cX0_memberAt 6 = .ok (.invokestatic 11, 3) := by decide +kernel
theorem dX0_memberAt_9 : decode cX0_memberAt 9 = .ok (.if_icmp .lt 5, 3) := by decide +kernel
theorem dX0_memberAt_12 : decode cX0_memberAt 12 = .ok (.iconst (-1), 1) := by decide +kernel
theorem dX0_memberAt_13 : decode cX0_memberAt 13 = .ok (.ireturn, 1) := by decide +kernel
theorem dX0_memberAt_14 : decode cX0_memberAt 14 = .ok (.lload_n 0, 1) := by decide +kernel
theorem dX0_memberAt_15 : decode cX0_memberAt 15 = .ok (.lstore_n 3, 1) := by decide +kernel
theorem dX0_memberAt_16 : decode cX0_memberAt 16 = .ok (.iconst 0, 1) := by decide +kernel
theorem dX0_memberAt_17 : decode cX0_memberAt 17 = .ok (.istore 5, 2) := by decide +kernel
theorem dX0_memberAt_19 : decode cX0_memberAt 19 = .ok (.iload 5, 2) := by decide +kernel
theorem dX0_memberAt_21 : decode cX0_memberAt 21 = .ok (.iload_n 2, 1) := by decide +kernel
theorem dX0_memberAt_22 : decode cX0_memberAt 22 = .ok (.if_icmp .ge 15, 3) := by decide +kernel
theorem dX0_memberAt_25 : decode cX0_memberAt 25 = .ok (.lload_n 3, 1) := by decide +kernel
theorem dX0_memberAt_26 : decode cX0_memberAt 26 = .ok (.lload_n 3, 1) := by decide +kernel
theorem dX0_memberAt_27 : decode cX0_memberAt 27 = .ok (.lconst 1, 1) := by decide +kernel
theorem dX0_memberAt_28 : decode cX0_memberAt 28 = .ok (.lsub, 1) := by decide +kernel
theorem dX0_memberAt_29 : decode cX0_memberAt 29 = .ok (.land, 1) := by decide +kernel
theorem dX0_memberAt_30 : decode cX0_memberAt 30 = .ok (.lstore_n 3, 1) := by decide +kernel
theorem dX0_memberAt_31 : decode cX0_memberAt 31 = .ok (.iinc 5 1, 3) := by decide +kernel
theorem dX0_memberAt_34 : decode cX0_memberAt 34 = .ok (.goto (-15), 3) := by decide +kernel
theorem dX0_memberAt_37 : decode cX0_memberAt 37 = .ok (.lload_n 3, 1) := by decide +kernel
theorem dX0_memberAt_38 : decode cX0_memberAt 38 = .ok (.invokestatic 17, 3) := by decide +kernel
theorem dX0_memberAt_41 : decode cX0_memberAt 41 = .ok (.ireturn, 1) := by decide +kernel
abbrev cX0_agrees : ByteArray := prog_2_method_7_code
def yX0_agrees : MethodName := ⟨RX0, "agrees", "(III)Z"⟩
theorem dX0_agrees_0 : decode cX0_agrees 0 = .ok (.iload_n 1, 1) := by decide +kernel
theorem dX0_agrees_1 : decode cX0_agrees 1 = .ok (.ifCond .ne 14, 3) := by decide +kernel
theorem dX0_agrees_4 : decode cX0_agrees 4 = .ok (.iload_n 0, 1) := by decide +kernel
theorem dX0_agrees_5 : decode cX0_agrees 5 = .ok (.iload_n 2, 1) := by decide +kernel
theorem dX0_agrees_6 : decode cX0_agrees 6 = .ok (.if_icmp .ne 7, 3) := by decide +kernel
theorem dX0_agrees_9 : decode cX0_agrees 9 = .ok (.iconst 1, 1) := by decide +kernel
theorem dX0_agrees_10 : decode cX0_agrees 10 = .ok (.goto 4, 3) := by decide +kernel
theorem dX0_agrees_13 : decode cX0_agrees 13 = .ok (.iconst 0, 1) := by decide +kernel
theorem dX0_agrees_14 : decode cX0_agrees 14 = .ok (.ireturn, 1) := by decide +kernel
theorem dX0_agrees_15 : decode cX0_agrees 15 = .ok (.iload_n 1, 1) := by decide +kernel
theorem dX0_agrees_16 : decode cX0_agrees 16 = .ok (.iconst 1, 1) := by decide +kernel
theorem dX0_agrees_17 : decode cX0_agrees 17 = .ok (.if_icmp .ne 16, 3) := by decide +kernel
theorem dX0_agrees_20 : decode cX0_agrees 20 = .ok (.iload_n 0, 1) := by decide +kernel
theorem dX0_agrees_21 : decode cX0_agrees 21 = .ok (.iload_n 2, 1) := by decide +kernel
theorem dX0_agrees_22 : decode cX0_agrees 22 = .ok (.if_icmp .ge 7, 3) := by decide +kernel
theorem dX0_agrees_25 : decode cX0_agrees 25 = .ok (.iconst 1, 1) := by decide +kernel
theorem dX0_agrees_26 : decode cX0_agrees 26 = .ok (.goto 17, 3) := by decide +kernel
theorem dX0_agrees_29 : decode cX0_agrees 29 = .ok (.iconst 0, 1) := by decide +kernel
theorem dX0_agrees_30 : decode cX0_agrees 30 = .ok (.goto 13, 3) := by decide +kernel
theorem dX0_agrees_33 : decode cX0_agrees 33 = .ok (.iload_n 0, 1) := by decide +kernel
theorem dX0_agrees_34 : decode cX0_agrees 34 = .ok (.iload_n 2, 1) := by decide +kernel
theorem dX0_agrees_35 : decode cX0_agrees 35 = .ok (.if_icmp .le 7, 3) := by decide +kernel
theorem dX0_agrees_38 : decode cX0_agrees 38 = .ok (.iconst 1, 1) := by decide +kernel
theorem dX0_agrees_39 : decode cX0_agrees 39 = .ok (.goto 4, 3) := by decide +kernel
theorem dX0_agrees_42 : decode cX0_agrees 42 = .ok (.iconst 0, 1) := by decide +kernel
theorem dX0_agrees_43 : decode cX0_agrees 43 = .ok (.ireturn, 1) := by decide +kernel
abbrev cJ7_fill_53178 : ByteArray := prog_24_method_103_code
def yJ7_fill_53178 : MethodName := ⟨RJ7, "fill", "([II)V"⟩
theorem dJ7_fill_53178_0 : decode cJ7_fill_53178 0 = .ok (.iconst 0, 1) := by decide +kernel
theorem dJ7_fill_53178_1 : decode cJ7_fill_53178 1 = .ok (.istore_n 2, 1) := by decide +kernel
theorem dJ7_fill_53178_2 : decode cJ7_fill_53178 2 = .ok (.aload_n 0, 1) := by decide +kernel
theorem dJ7_fill_53178_3 : decode cJ7_fill_53178 3 = .ok (.arraylength, 1) := by decide +kernel
theorem dJ7_fill_53178_4 : decode cJ7_fill_53178 4 = .ok (.istore_n 3, 1) := by decide +kernel
theorem dJ7_fill_53178_5 : decode cJ7_fill_53178 5 = .ok (.iload_n 2, 1) := by decide +kernel
theorem dJ7_fill_53178_6 : decode cJ7_fill_53178 6 = .ok (.iload_n 3, 1) := by decide +kernel
theorem dJ7_fill_53178_7 : decode cJ7_fill_53178 7 = .ok (.if_icmp .ge 13, 3) := by decide +kernel
theorem dJ7_fill_53178_10 : decode cJ7_fill_53178 10 = .ok (.aload_n 0, 1) := by decide +kernel
theorem dJ7_fill_53178_11 : decode cJ7_fill_53178 11 = .ok (.iload_n 2, 1) := by decide +kernel
theorem dJ7_fill_53178_12 : decode cJ7_fill_53178 12 = .ok (.iload_n 1, 1) := by decide +kernel
theorem dJ7_fill_53178_13 : decode cJ7_fill_53178 13 = .ok (.iastore, 1) := by decide +kernel
theorem dJ7_fill_53178_14 : decode cJ7_fill_53178 14 = .ok (.iinc 2 1, 3) := by decide +kernel
theorem dJ7_fill_53178_17 : decode cJ7_fill_53178 17 = .ok (.goto (-12), 3) := by decide +kernel
theorem dJ7_fill_53178_20 : decode cJ7_fill_53178 20 = .ok (.return_, 1) := by decide +kernel
abbrev cX5_init : ByteArray := prog_7_method_1_code
def yX5_init : MethodName := ⟨RX5, "<init>", "(II)V"⟩
theorem dX5_init_0 : decode cX5_init 0 = .ok (.aload_n 0, 1) := by decide +kernel
theorem dX5_init_1 : decode cX5_init 1 = .ok (.invokespecial 3, 3) := by decide +kernel
theorem dX5_init_4 : decode cX5_init 4 = .ok (.aload_n 0, 1) := by decide +kernel
theorem dX5_init_5 : decode cX5_init 5 = .ok (.iload_n 1, 1) := by decide +kernel
theorem dX5_init_6 : decode cX5_init 6 = .ok (.ifCond .ge 7, 3) := by decide +kernel
theorem dX5_init_9 : decode cX5_init 9 = .ok (.iconst 0, 1) := by decide +kernel
theorem dX5_init_10 : decode cX5_init 10 = .ok (.goto 4, 3) := by decide +kernel
theorem dX5_init_13 : decode cX5_init 13 = .ok (.iload_n 1, 1) := by decide +kernel
theorem dX5_init_14 : decode cX5_init 14 = .ok (.newarray .int, 2) := by decide +kernel
theorem dX5_init_16 : decode cX5_init 16 = .ok (.putfield 9, 3) := by decide +kernel
theorem dX5_init_19 : decode cX5_init 19 = .ok (.aload_n 0, 1) := by decide +kernel
theorem dX5_init_20 : decode cX5_init 20 = .ok (.getfield 9, 3) := by decide +kernel
theorem dX5_init_23 : decode cX5_init 23 = .ok (.iload_n 2, 1) := by decide +kernel
theorem dX5_init_24 : decode cX5_init 24 = .ok (.invokestatic 15, 3) := by decide +kernel
theorem dX5_init_27 : decode cX5_init 27 = .ok (.return_, 1) := by decide +kernel
abbrev cX5_get : ByteArray := prog_7_method_2_code
def yX5_get : MethodName := ⟨RX5, "get", "(I)I"⟩
theorem dX5_get_0 : decode cX5_get 0 = .ok (.iload_n 1, 1) := by decide +kernel
theorem dX5_get_1 : decode cX5_get 1 = .ok (.ifCond .lt 21, 3) := by decide +kernel
theorem dX5_get_4 : decode cX5_get 4 = .ok (.iload_n 1, 1) := by decide +kernel
theorem dX5_get_5 : decode cX5_get 5 = .ok (.aload_n 0, 1) := by decide +kernel
theorem dX5_get_6 : decode cX5_get 6 = .ok (.getfield 9, 3) := by decide +kernel
theorem dX5_get_9 : decode cX5_get 9 = .ok (.arraylength, 1) := by decide +kernel
theorem dX5_get_10 : decode cX5_get 10 = .ok (.if_icmp .ge 12, 3) := by decide +kernel
theorem dX5_get_13 : decode cX5_get 13 = .ok (.aload_n 0, 1) := by decide +kernel
theorem dX5_get_14 : decode cX5_get 14 = .ok (.getfield 9, 3) := by decide +kernel
theorem dX5_get_17 : decode cX5_get 17 = .ok (.iload_n 1, 1) := by decide +kernel
theorem dX5_get_18 : decode cX5_get 18 = .ok (.iaload, 1) := by decide +kernel
theorem dX5_get_19 : decode cX5_get 19 = .ok (.goto 4, 3) := by decide +kernel
theorem dX5_get_22 : decode cX5_get 22 = .ok (.iconst (-1), 1) := by decide +kernel
theorem dX5_get_23 : decode cX5_get 23 = .ok (.ireturn, 1) := by decide +kernel
abbrev cX5_set : ByteArray := prog_7_method_3_code
def yX5_set : MethodName := ⟨RX5, "set", "(II)V"⟩
theorem dX5_set_0 : decode cX5_set 0 = .ok (.iload_n 1, 1) := by decide +kernel
theorem dX5_set_1 : decode cX5_set 1 = .ok (.ifCond .lt 19, 3) := by decide +kernel
theorem dX5_set_4 : decode cX5_set 4 = .ok (.iload_n 1, 1) := by decide +kernel
theorem dX5_set_5 : decode cX5_set 5 = .ok (.aload_n 0, 1) := by decide +kernel
theorem dX5_set_6 : decode cX5_set 6 = .ok (.getfield 9, 3) := by decide +kernel
theorem dX5_set_9 : decode cX5_set 9 = .ok (.arraylength, 1) := by decide +kernel
theorem dX5_set_10 : decode cX5_set 10 = .ok (.if_icmp .ge 10, 3) := by decide +kernel
theorem dX5_set_13 : decode cX5_set 13 = .ok (.aload_n 0, 1) := by decide +kernel
theorem dX5_set_14 : decode cX5_set 14 = .ok (.getfield 9, 3) := by decide +kernel
theorem dX5_set_17 : decode cX5_set 17 = .ok (.iload_n 1, 1) := by decide +kernel
theorem dX5_set_18 : decode cX5_set 18 = .ok (.iload_n 2, 1) := by decide +kernel
theorem dX5_set_19 : decode cX5_set 19 = .ok (.iastore, 1) := by decide +kernel
theorem dX5_set_20 : decode cX5_set 20 = .ok (.return_, 1) := by decide +kernel
abbrev cX7_get : ByteArray := prog_9_method_2_code
def yX7_get : MethodName := ⟨RX7, "get", "(I)J"⟩
theorem dX7_get_0 : decode cX7_get 0 = .ok (.iload_n 1, 1) := by decide +kernel
theorem dX7_get_1 : decode cX7_get 1 = .ok (.ifCond .lt 21, 3) := by decide +kernel
theorem dX7_get_4 : decode cX7_get 4 = .ok (.iload_n 1, 1) := by decide +kernel
theorem dX7_get_5 : decode cX7_get 5 = .ok (.aload_n 0, 1) := by decide +kernel
theorem dX7_get_6 : decode cX7_get 6 = .ok (.getfield 7, 3) := by decide +kernel
theorem dX7_get_9 : decode cX7_get 9 = .ok (.arraylength, 1) := by decide +kernel
theorem dX7_get_10 : decode cX7_get 10 = .ok (.if_icmp .ge 12, 3) := by decide +kernel
theorem dX7_get_13 : decode cX7_get 13 = .ok (.aload_n 0, 1) := by decide +kernel
theorem dX7_get_14 : decode cX7_get 14 = .ok (.getfield 7, 3) := by decide +kernel
theorem dX7_get_17 : decode cX7_get 17 = .ok (.iload_n 1, 1) := by decide +kernel
theorem dX7_get_18 : decode cX7_get 18 = .ok (.laload, 1) := by decide +kernel
theorem dX7_get_19 : decode cX7_get 19 = .ok (.goto 4, 3) := by decide +kernel
theorem dX7_get_22 : decode cX7_get 22 = .ok (.lconst 0, 1) := by decide +kernel
theorem dX7_get_23 : decode cX7_get 23 = .ok (.lreturn, 1) := by decide +kernel
abbrev cX7_init : ByteArray := prog_9_method_1_code
def yX7_init : MethodName := ⟨RX7, "<init>", "(I)V"⟩
theorem dX7_init_0 : decode cX7_init 0 = .ok (.aload_n 0, 1) := by decide +kernel
theorem dX7_init_1 : decode cX7_init 1 = .ok (.invokespecial 1, 3) := by decide +kernel
theorem dX7_init_4 : decode cX7_init 4 = .ok (.aload_n 0, 1) := by decide +kernel
theorem dX7_init_5 : decode cX7_init 5 = .ok (.iload_n 1, 1) := by decide +kernel
theorem dX7_init_6 : decode cX7_init 6 = .ok (.ifCond .ge 7, 3) := by decide +kernel
theorem dX7_init_9 : decode cX7_init 9 = .ok (.iconst 0, 1) := by decide +kernel
theorem dX7_init_10 : decode cX7_init 10 = .ok (.goto 4, 3) := by decide +kernel
theorem dX7_init_13 : decode cX7_init 13 = .ok (.iload_n 1, 1) := by decide +kernel
theorem dX7_init_14 : decode cX7_init 14 = .ok (.newarray .long, 2) := by decide +kernel
theorem dX7_init_16 : decode cX7_init 16 = .ok (.putfield 7, 3) := by decide +kernel
theorem dX7_init_19 : decode cX7_init 19 = .ok (.return_, 1) := by decide +kernel
abbrev cX7_set : ByteArray := prog_9_method_3_code
def yX7_set : MethodName := ⟨RX7, "set", "(IJ)V"⟩
theorem dX7_set_0 : decode cX7_set 0 = .ok (.iload_n 1, 1) := by decide +kernel
theorem dX7_set_1 : decode cX7_set 1 = .ok (.ifCond .lt 19, 3) := by decide +kernel
theorem dX7_set_4 : decode cX7_set 4 = .ok (.iload_n 1, 1) := by decide +kernel
theorem dX7_set_5 : decode cX7_set 5 = .ok (.aload_n 0, 1) := by decide +kernel
theorem dX7_set_6 : decode cX7_set 6 = .ok (.getfield 7, 3) := by decide +kernel
theorem dX7_set_9 : decode cX7_set 9 = .ok (.arraylength, 1) := by decide +kernel
theorem dX7_set_10 : decode cX7_set 10 = .ok (.if_icmp .ge 10, 3) := by decide +kernel
theorem dX7_set_13 : decode cX7_set 13 = .ok (.aload_n 0, 1) := by decide +kernel
theorem dX7_set_14 : decode cX7_set 14 = .ok (.getfield 7, 3) := by decide +kernel
theorem dX7_set_17 : decode cX7_set 17 = .ok (.iload_n 1, 1) := by decide +kernel
theorem dX7_set_18 : decode cX7_set 18 = .ok (.lload_n 2, 1) := by decide +kernel
theorem dX7_set_19 : decode cX7_set 19 = .ok (.lastore, 1) := by decide +kernel
theorem dX7_set_20 : decode cX7_set 20 = .ok (.return_, 1) := by decide +kernel
abbrev cX7_union : ByteArray := prog_9_method_6_code
def yX7_union : MethodName := ⟨RX7, "union", "(IJ)J"⟩
theorem dX7_union_0 : decode cX7_union 0 = .ok (.lconst 0, 1) := by decide +kernel
theorem dX7_union_1 : decode cX7_union 1 = .ok (.lstore 4, 2) := by decide +kernel
theorem dX7_union_3 : decode cX7_union 3 = .ok (.lload_n 2, 1) := by decide +kernel
theorem dX7_union_4 : decode cX7_union 4 = .ok (.lstore 6, 2) := by decide +kernel
theorem dX7_union_6 : decode cX7_union 6 = .ok (.lload_n 2, 1) := by decide +kernel
theorem dX7_union_7 : decode cX7_union 7 = .ok (.invokestatic 25, 3) := by decide +kernel
theorem dX7_union_10 : decode cX7_union 10 = .ok (.istore 8, 2) := by decide +kernel
theorem dX7_union_12 : decode cX7_union 12 = .ok (.iload 8, 2) := by decide +kernel
theorem dX7_union_14 : decode cX7_union 14 = .ok (.ifCond .le 58, 3) := by decide +kernel
theorem dX7_union_17 : decode cX7_union 17 = .ok (.iload_n 1, 1) := by decide +kernel
theorem dX7_union_18 : decode cX7_union 18 = .ok (.lload 6, 2) := by decide +kernel
theorem dX7_union_20 : decode cX7_union 20 = .ok (.invokestatic 31, 3) := by decide +kernel
theorem dX7_union_23 : decode cX7_union 23 = .ok (.iadd, 1) := by decide +kernel
theorem dX7_union_24 : decode cX7_union 24 = .ok (.istore 9, 2) := by decide +kernel
theorem dX7_union_26 : decode cX7_union 26 = .ok (.lload 4, 2) := by decide +kernel
theorem dX7_union_28 : decode cX7_union 28 = .ok (.iload 9, 2) := by decide +kernel
theorem dX7_union_30 : decode cX7_union 30 = .ok (.ifCond .lt 23, 3) := by decide +kernel
theorem dX7_union_33 : decode cX7_union 33 = .ok (.iload 9, 2) := by decide +kernel
theorem dX7_union_35 : decode cX7_union 35 = .ok (.aload_n 0, 1) := by decide +kernel
theorem dX7_union_36 : decode cX7_union 36 = .ok (.getfield 7, 3) := by decide +kernel
theorem dX7_union_39 : decode cX7_union 39 = .ok (.arraylength, 1) := by decide +kernel
theorem dX7_union_40 : decode cX7_union 40 = .ok (.if_icmp .ge 13, 3) := by decide +kernel
theorem dX7_union_43 : decode cX7_union 43 = .ok (.aload_n 0, 1) := by decide +kernel
theorem dX7_union_44 : decode cX7_union 44 = .ok (.getfield 7, 3) := by decide +kernel
theorem dX7_union_47 : decode cX7_union 47 = .ok (.iload 9, 2) := by decide +kernel
theorem dX7_union_49 : decode cX7_union 49 = .ok (.laload, 1) := by decide +kernel
theorem dX7_union_50 : decode cX7_union 50 = .ok (.goto 4, 3) := by decide +kernel
theorem dX7_union_53 : decode cX7_union 53 = .ok (.lconst 0, 1) := by decide +kernel
theorem dX7_union_54 : decode cX7_union 54 = .ok (.lor, 1) := by decide +kernel
theorem dX7_union_55 : decode cX7_union 55 = .ok (.lstore 4, 2) := by decide +kernel
theorem dX7_union_57 : decode cX7_union 57 = .ok (.lload 6, 2) := by decide +kernel
theorem dX7_union_59 : decode cX7_union 59 = .ok (.lload 6, 2) := by decide +kernel
theorem dX7_union_61 : decode cX7_union 61 = .ok (.lconst 1, 1) := by decide +kernel
theorem dX7_union_62 : decode cX7_union 62 = .ok (.lsub, 1) := by decide +kernel
theorem dX7_union_63 : decode cX7_union 63 = .ok (.land, 1) := by decide +kernel
theorem dX7_union_64 : decode cX7_union 64 = .ok (.lstore 6, 2) := by decide +kernel
theorem dX7_union_66 : decode cX7_union 66 = .ok (.iinc 8 (-1), 3) := by decide +kernel
theorem dX7_union_69 : decode cX7_union 69 = .ok (.goto (-57), 3) := by decide +kernel
theorem dX7_union_72 : decode cX7_union 72 = .ok (.lload 4, 2) := by decide +kernel
theorem dX7_union_74 : decode cX7_union 74 = .ok (.lreturn, 1) := by decide +kernel
abbrev cX5_setAll : ByteArray := prog_7_method_4_code
def yX5_setAll : MethodName := ⟨RX5, "setAll", "(I)V"⟩
theorem dX5_setAll_0 : decode cX5_setAll 0 = .ok (.aload_n 0, 1) := by decide +kernel
theorem dX5_setAll_1 : decode cX5_setAll 1 = .ok (.getfield 9, 3) := by decide +kernel
theorem dX5_setAll_4 : decode cX5_setAll 4 = .ok (.iload_n 1, 1) := by decide +kernel
theorem dX5_setAll_5 : decode cX5_setAll 5 = .ok (.invokestatic 15, 3) := by decide +kernel
theorem dX5_setAll_8 : decode cX5_setAll 8 = .ok (.return_, 1) := by decide +kernel
abbrev cJ7_fill_d0a16 : ByteArray := prog_24_method_101_code
def yJ7_fill_d0a16 : MethodName := ⟨RJ7, "fill", "([JJ)V"⟩
theorem dJ7_fill_d0a16_0 : decode cJ7_fill_d0a16 0 = .ok (.iconst 0, 1) := by decide +kernel
theorem dJ7_fill_d0a16_1 : decode cJ7_fill_d0a16 1 = .ok (.istore_n 3, 1) := by decide +kernel
theorem dJ7_fill_d0a16_2 : decode cJ7_fill_d0a16 2 = .ok (.aload_n 0, 1) := by decide +kernel
theorem dJ7_fill_d0a16_3 : decode cJ7_fill_d0a16 3 = .ok (.arraylength, 1) := by decide +kernel
theorem dJ7_fill_d0a16_4 : decode cJ7_fill_d0a16 4 = .ok (.istore 4, 2) := by decide +kernel
theorem dJ7_fill_d0a16_6 : decode cJ7_fill_d0a16 6 = .ok (.iload_n 3, 1) := by decide +kernel
theorem dJ7_fill_d0a16_7 : decode cJ7_fill_d0a16 7 = .ok (.iload 4, 2) := by decide +kernel
theorem dJ7_fill_d0a16_9 : decode cJ7_fill_d0a16 9 = .ok (.if_icmp .ge 13, 3) := by decide +kernel
theorem dJ7_fill_d0a16_12 : decode cJ7_fill_d0a16 12 = .ok (.aload_n 0, 1) := by decide +kernel
theorem dJ7_fill_d0a16_13 : decode cJ7_fill_d0a16 13 = .ok (.iload_n 3, 1) := by decide +kernel
theorem dJ7_fill_d0a16_14 : decode cJ7_fill_d0a16 14 = .ok (.lload_n 1, 1) := by decide +kernel
theorem dJ7_fill_d0a16_15 : decode cJ7_fill_d0a16 15 = .ok (.lastore, 1) := by decide +kernel
theorem dJ7_fill_d0a16_16 : decode cJ7_fill_d0a16 16 = .ok (.iinc 3 1, 3) := by decide +kernel
theorem dJ7_fill_d0a16_19 : decode cJ7_fill_d0a16 19 = .ok (.goto (-13), 3) := by decide +kernel
theorem dJ7_fill_d0a16_22 : decode cJ7_fill_d0a16 22 = .ok (.return_, 1) := by decide +kernel
abbrev cX7_emptyAll : ByteArray := prog_9_method_5_code
def yX7_emptyAll : MethodName := ⟨RX7, "emptyAll", "()V"⟩
theorem dX7_emptyAll_0 : decode cX7_emptyAll 0 = .ok (.aload_n 0, 1) := by decide +kernel
theorem dX7_emptyAll_1 : decode cX7_emptyAll 1 = .ok (.getfield 7, 3) := by decide +kernel
theorem dX7_emptyAll_4 : decode cX7_emptyAll 4 = .ok (.lconst 0, 1) := by decide +kernel
theorem dX7_emptyAll_5 : decode cX7_emptyAll 5 = .ok (.invokestatic 19, 3) := by decide +kernel
theorem dX7_emptyAll_8 : decode cX7_emptyAll 8 = .ok (.return_, 1) := by decide +kernel
abbrev cX7_add : ByteArray := prog_9_method_4_code
def yX7_add : MethodName := ⟨RX7, "add", "(II)V"⟩
theorem dX7_add_0 : decode cX7_add 0 = .ok (.iload_n 1, 1) := by decide +kernel
theorem dX7_add_1 : decode cX7_add 1 = .ok (.ifCond .lt 25, 3) := by decide +kernel
theorem dX7_add_4 : decode cX7_add 4 = .ok (.iload_n 1, 1) := by decide +kernel
theorem dX7_add_5 : decode cX7_add 5 = .ok (.aload_n 0, 1) := by decide +kernel
theorem dX7_add_6 : decode cX7_add 6 = .ok (.getfield 7, 3) := by decide +kernel
theorem dX7_add_9 : decode cX7_add 9 = .ok (.arraylength, 1) := by decide +kernel
theorem dX7_add_10 : decode cX7_add 10 = .ok (.if_icmp .ge 16, 3) := by decide +kernel
theorem dX7_add_13 : decode cX7_add 13 = .ok (.aload_n 0, 1) := by decide +kernel
theorem dX7_add_14 : decode cX7_add 14 = .ok (.getfield 7, 3) := by decide +kernel
theorem dX7_add_17 : decode cX7_add 17 = .ok (.iload_n 1, 1) := by decide +kernel
theorem dX7_add_18 : decode cX7_add 18 = .ok (.dup2, 1) := by decide +kernel
theorem dX7_add_19 : decode cX7_add 19 = .ok (.laload, 1) := by decide +kernel
theorem dX7_add_20 : decode cX7_add 20 = .ok (.iload_n 2, 1) := by decide +kernel
theorem dX7_add_21 : decode cX7_add 21 = .ok (.invokestatic 13, 3) := by decide +kernel
theorem dX7_add_24 : decode cX7_add 24 = .ok (.lor, 1) := by decide +kernel
theorem dX7_add_25 : decode cX7_add 25 = .ok (.lastore, 1) := by decide +kernel
theorem dX7_add_26 : decode cX7_add 26 = .ok (.return_, 1) := by decide +kernel
abbrev cX5_copy : ByteArray := prog_7_method_5_code
def yX5_copy : MethodName := ⟨RX5, "copy", "(LTreequery$Row;)V"⟩
theorem dX5_copy_0 : decode cX5_copy 0 = .ok (.aload_n 0, 1) := by decide +kernel
theorem dX5_copy_1 : decode cX5_copy 1 = .ok (.getfield 9, 3) := by decide +kernel
theorem dX5_copy_4 : decode cX5_copy 4 = .ok (.arraylength, 1) := by decide +kernel
theorem dX5_copy_5 : decode cX5_copy 5 = .ok (.aload_n 1, 1) := by decide +kernel
theorem dX5_copy_6 : decode cX5_copy 6 = .ok (.getfield 9, 3) := by decide +kernel
theorem dX5_copy_9 : decode cX5_copy 9 = .ok (.arraylength, 1) := by decide +kernel
theorem dX5_copy_10 : decode cX5_copy 10 = .ok (.invokestatic 21, 3) := by decide +kernel
theorem dX5_copy_13 : decode cX5_copy 13 = .ok (.istore_n 2, 1) := by decide +kernel
theorem dX5_copy_14 : decode cX5_copy 14 = .ok (.aload_n 1, 1) := by decide +kernel
theorem dX5_copy_15 : decode cX5_copy 15 = .ok (.getfield 9, 3) := by decide +kernel
theorem dX5_copy_18 : decode cX5_copy 18 = .ok (.iconst 0, 1) := by decide +kernel
theorem dX5_copy_19 : decode cX5_copy 19 = .ok (.aload_n 0, 1) := by decide +kernel
theorem dX5_copy_20 : decode cX5_copy 20 = .ok (.getfield 9, 3) := by decide +kernel
theorem dX5_copy_23 : decode cX5_copy 23 = .ok (.iconst 0, 1) := by decide +kernel
theorem dX5_copy_24 : decode cX5_copy 24 = .ok (.iload_n 2, 1) := by decide +kernel
theorem dX5_copy_25 : decode cX5_copy 25 = .ok (.invokestatic 27, 3) := by decide +kernel
theorem dX5_copy_28 : decode cX5_copy 28 = .ok (.return_, 1) := by decide +kernel
abbrev cX5_union : ByteArray := prog_7_method_6_code
def yX5_union : MethodName := ⟨RX5, "union", "(II)I"⟩
theorem dX5_union_0 : decode cX5_union 0 = .ok (.iconst 0, 1) := by decide +kernel
theorem dX5_union_1 : decode cX5_union 1 = .ok (.istore_n 3, 1) := by decide +kernel
theorem dX5_union_2 : decode cX5_union 2 = .ok (.iconst 0, 1) := by decide +kernel
theorem dX5_union_3 : decode cX5_union 3 = .ok (.istore 4, 2) := by decide +kernel
theorem dX5_union_5 : decode cX5_union 5 = .ok (.iload 4, 2) := by decide +kernel
theorem dX5_union_7 : decode cX5_union 7 = .ok (.bipush 8, 2) := by decide +kernel
theorem dX5_union_9 : decode cX5_union 9 = .ok (.if_icmp .ge 49, 3) := by decide +kernel
theorem dX5_union_12 : decode cX5_union 12 = .ok (.iload_n 1, 1) := by decide +kernel
theorem dX5_union_13 : decode cX5_union 13 = .ok (.iload 4, 2) := by decide +kernel
theorem dX5_union_15 : decode cX5_union 15 = .ok (.iadd, 1) := by decide +kernel
theorem dX5_union_16 : decode cX5_union 16 = .ok (.istore 5, 2) := by decide +kernel
theorem dX5_union_18 : decode cX5_union 18 = .ok (.iload_n 2, 1) := by decide +kernel
theorem dX5_union_19 : decode cX5_union 19 = .ok (.iload 4, 2) := by decide +kernel
theorem dX5_union_21 : decode cX5_union 21 = .ok (.ishr, 1) := by decide +kernel
theorem dX5_union_22 : decode cX5_union 22 = .ok (.iconst 1, 1) := by decide +kernel
theorem dX5_union_23 : decode cX5_union 23 = .ok (.iand, 1) := by decide +kernel
theorem dX5_union_24 : decode cX5_union 24 = .ok (.ifCond .eq 28, 3) := by decide +kernel
theorem dX5_union_27 : decode cX5_union 27 = .ok (.iload 5, 2) := by decide +kernel
theorem dX5_union_29 : decode cX5_union 29 = .ok (.ifCond .lt 23, 3) := by decide +kernel
theorem dX5_union_32 : decode cX5_union 32 = .ok (.iload 5, 2) := by decide +kernel
theorem dX5_union_34 : decode cX5_union 34 = .ok (.aload_n 0, 1) := by decide +kernel
theorem dX5_union_35 : decode cX5_union 35 = .ok (.getfield 9, 3) := by decide +kernel
theorem dX5_union_38 : decode cX5_union 38 = .ok (.arraylength, 1) := by decide +kernel
theorem dX5_union_39 : decode cX5_union 39 = .ok (.if_icmp .ge 13, 3) := by decide +kernel
theorem dX5_union_42 : decode cX5_union 42 = .ok (.iload_n 3, 1) := by decide +kernel
theorem dX5_union_43 : decode cX5_union 43 = .ok (.aload_n 0, 1) := by decide +kernel
theorem dX5_union_44 : decode cX5_union 44 = .ok (.getfield 9, 3) := by decide +kernel
theorem dX5_union_47 : decode cX5_union 47 = .ok (.iload 5, 2) := by decide +kernel
theorem dX5_union_49 : decode cX5_union 49 = .ok (.iaload, 1) := by decide +kernel
theorem dX5_union_50 : decode cX5_union 50 = .ok (.ior, 1) := by decide +kernel
theorem dX5_union_51 : decode cX5_union 51 = .ok (.istore_n 3, 1) := by decide +kernel
theorem dX5_union_52 : decode cX5_union 52 = .ok (.iinc 4 1, 3) := by decide +kernel
theorem dX5_union_55 : decode cX5_union 55 = .ok (.goto (-50), 3) := by decide +kernel
theorem dX5_union_58 : decode cX5_union 58 = .ok (.iload_n 3, 1) := by decide +kernel
theorem dX5_union_59 : decode cX5_union 59 = .ok (.ireturn, 1) := by decide +kernel
abbrev cX5_closure : ByteArray := prog_7_method_7_code
def yX5_closure : MethodName := ⟨RX5, "closure", "(II)I"⟩
theorem dX5_closure_0 : decode cX5_closure 0 = .ok (.aload_n 0, 1) := by decide +kernel
theorem dX5_closure_1 : decode cX5_closure 1 = .ok (.iload_n 1, 1) := by decide +kernel
theorem dX5_closure_2 : decode cX5_closure 2 = .ok (.iload_n 2, 1) := by decide +kernel
theorem dX5_closure_3 : decode cX5_closure 3 = .ok (.invokevirtual 33, 3) := by decide +kernel
theorem dX5_closure_6 : decode cX5_closure 6 = .ok (.istore_n 3, 1) := by decide +kernel
theorem dX5_closure_7 : decode cX5_closure 7 = .ok (.iconst 0, 1) := by decide +kernel
theorem dX5_closure_8 : decode cX5_closure 8 = .ok (.istore 4, 2) := by decide +kernel
theorem dX5_closure_10 : decode cX5_closure 10 = .ok (.iload 4, 2) := by decide +kernel
theorem dX5_closure_12 : decode cX5_closure 12 = .ok (.bipush 8, 2) := by decide +kernel
theorem dX5_closure_14 : decode cX5_closure 14 = .ok (.if_icmp .ge 18, 3) := by decide +kernel
theorem dX5_closure_17 : decode cX5_closure 17 = .ok (.iload_n 3, 1) := by decide +kernel
theorem dX5_closure_18 : decode cX5_closure 18 = .ok (.aload_n 0, 1) := by decide +kernel
theorem dX5_closure_19 : decode cX5_closure 19 = .ok (.iload_n 1, 1) := by decide +kernel
theorem dX5_closure_20 : decode cX5_closure 20 = .ok (.iload_n 3, 1) := by decide +kernel
theorem dX5_closure_21 : decode cX5_closure 21 = .ok (.invokevirtual 33, 3) := by decide +kernel
theorem dX5_closure_24 : decode cX5_closure 24 = .ok (.ior, 1) := by decide +kernel
theorem dX5_closure_25 : decode cX5_closure 25 = .ok (.istore_n 3, 1) := by decide +kernel
theorem dX5_closure_26 : decode cX5_closure 26 = .ok (.iinc 4 1, 3) := by decide +kernel
theorem dX5_closure_29 : decode cX5_closure 29 = .ok (.goto (-19), 3) := by decide +kernel
theorem dX5_closure_32 : decode cX5_closure 32 = .ok (.iload_n 3, 1) := by decide +kernel
theorem dX5_closure_33 : decode cX5_closure 33 = .ok (.ireturn, 1) := by decide +kernel
theorem tk_kl_0 : Int64.ofNat ((0 : Fin 2) : Nat) = (0 : Int64) := by decide +kernel
theorem tk_kb_64 : (Int8.ofInt (64)).toInt32 = (64 : Int32) := by decide +kernel
theorem tk_kl_1 : Int64.ofNat ((1 : Fin 2) : Nat) = (1 : Int64) := by decide +kernel
theorem tk_RX0_9 : Cond.constantLong RX0 9 (-1) ∈ tq_G := tq_g (i := 513) (by decide +kernel) rfl
theorem tk_ki_0 : Int32.ofInt (0) = (0 : Int32) := by decide +kernel
theorem tk_ki_1 : Int32.ofInt (1) = (1 : Int32) := by decide +kernel
theorem tk_RJ13_314 : Cond.constantLong RJ13 314 (6148914691236517205) ∈ tq_G := tq_g (i := 574) (by decide +kernel) rfl
theorem tk_RJ13_316 : Cond.constantLong RJ13 316 (3689348814741910323) ∈ tq_G := tq_g (i := 575) (by decide +kernel) rfl
theorem tk_ki_2 : Int32.ofInt (2) = (2 : Int32) := by decide +kernel
theorem tk_ki_4 : Int32.ofInt (4) = (4 : Int32) := by decide +kernel
theorem tk_RJ13_318 : Cond.constantLong RJ13 318 (1085102592571150095) ∈ tq_G := tq_g (i := 576) (by decide +kernel) rfl
theorem tk_kb_8 : (Int8.ofInt (8)).toInt32 = (8 : Int32) := by decide +kernel
theorem tk_kb_16 : (Int8.ofInt (16)).toInt32 = (16 : Int32) := by decide +kernel
theorem tk_kb_32 : (Int8.ofInt (32)).toInt32 = (32 : Int32) := by decide +kernel
theorem tk_kb_127 : (Int8.ofInt (127)).toInt32 = (127 : Int32) := by decide +kernel
theorem tk_RX0_11 : Cond.methodLink RX0 11 yJ13_bitCount_95d88 ∈ tq_G := tq_g (i := 571) (by decide +kernel) rfl
theorem tk_y_J13_bitCount_95d88 : tq_yok yJ13_bitCount_95d88 cJ13_bitCount_95d88 2 (some .int) 1 := ⟨tq_g (i := 573) (by decide +kernel) rfl, tq_g (i := 132) (by decide +kernel) rfl, ⟨by decide +kernel, by decide +kernel⟩, by decide +kernel, by decide⟩
theorem tk_s_J13_bitCount_95d88 : Cond.static yJ13_bitCount_95d88 ∈ tq_G := tq_g (i := 572) (by decide +kernel) rfl
theorem tk_ki_m1 : Int32.ofInt (-1) = (-1 : Int32) := by decide +kernel
theorem tk_RX0_17 : Cond.methodLink RX0 17 yX0_lowest ∈ tq_G := tq_g (i := 577) (by decide +kernel) rfl
theorem tk_y_X0_lowest : tq_yok yX0_lowest cX0_lowest 2 (some .int) 1 := ⟨tq_g (i := 579) (by decide +kernel) rfl, tq_g (i := 130) (by decide +kernel) rfl, ⟨by decide +kernel, by decide +kernel⟩, by decide +kernel, by decide⟩
theorem tk_s_X0_lowest : Cond.static yX0_lowest ∈ tq_G := tq_g (i := 578) (by decide +kernel) rfl
theorem tk_RX5_3 : Cond.methodLink RX5 3 Lib.objectInit ∈ tq_G := tq_g (i := 167) (by decide +kernel) rfl
theorem tk_oi : Cond.instanceMethod Lib.objectInit ∈ tq_G := tq_g (i := 148) (by decide +kernel) rfl
theorem tk_oc : Cond.code Lib.objectInit ⟨#[0xb1]⟩ 1 none ∈ tq_G := tq_g (i := 149) (by decide +kernel) rfl
theorem tk_ac_int : Cond.arrayClass .int ∈ tq_G := tq_g (i := 175) (by decide +kernel) rfl
theorem tk_RX5_9 : Cond.fieldLink RX5 9 RX5 (TX5 0).2.1 (TX5 0).2.2.1 ∈ tq_G := tq_g (i := 171) (by decide +kernel) rfl
theorem tk_RX5_15 : Cond.methodLink RX5 15 yJ7_fill_53178 ∈ tq_G := tq_g (i := 168) (by decide +kernel) rfl
theorem tk_y_J7_fill_53178 : tq_yok yJ7_fill_53178 cJ7_fill_53178 4 none 2 := ⟨tq_g (i := 170) (by decide +kernel) rfl, tq_g (i := 124) (by decide +kernel) rfl, ⟨by decide +kernel, by decide +kernel⟩, by decide +kernel, by decide⟩
theorem tk_s_J7_fill_53178 : Cond.static yJ7_fill_53178 ∈ tq_G := tq_g (i := 169) (by decide +kernel) rfl
theorem tk_RX7_7 : Cond.fieldLink RX7 7 RX7 (TX7 0).2.1 (TX7 0).2.2.1 ∈ tq_G := tq_g (i := 182) (by decide +kernel) rfl
theorem tk_RX7_1 : Cond.methodLink RX7 1 Lib.objectInit ∈ tq_G := tq_g (i := 181) (by decide +kernel) rfl
theorem tk_ac_long : Cond.arrayClass .long ∈ tq_G := tq_g (i := 186) (by decide +kernel) rfl
theorem tk_RX7_25 : Cond.methodLink RX7 25 yJ13_bitCount_95d88 ∈ tq_G := tq_g (i := 1101) (by decide +kernel) rfl
theorem tk_RX7_31 : Cond.methodLink RX7 31 yX0_lowest ∈ tq_G := tq_g (i := 1102) (by decide +kernel) rfl
theorem tk_RX7_19 : Cond.methodLink RX7 19 yJ7_fill_d0a16 ∈ tq_G := tq_g (i := 466) (by decide +kernel) rfl
theorem tk_y_J7_fill_d0a16 : tq_yok yJ7_fill_d0a16 cJ7_fill_d0a16 5 none 2 := ⟨tq_g (i := 468) (by decide +kernel) rfl, tq_g (i := 124) (by decide +kernel) rfl, ⟨by decide +kernel, by decide +kernel⟩, by decide +kernel, by decide⟩
theorem tk_s_J7_fill_d0a16 : Cond.static yJ7_fill_d0a16 ∈ tq_G := tq_g (i := 467) (by decide +kernel) rfl
theorem tk_RX7_13 : Cond.methodLink RX7 13 yX0_one ∈ tq_G := tq_g (i := 487) (by decide +kernel) rfl
theorem tk_y_X0_one : tq_yok yX0_one cX0_one 1 (some .long) 1 := ⟨tq_g (i := 489) (by decide +kernel) rfl, tq_g (i := 130) (by decide +kernel) rfl, ⟨by decide +kernel, by decide +kernel⟩, by decide +kernel, by decide⟩
theorem tk_s_X0_one : Cond.static yX0_one ∈ tq_G := tq_g (i := 488) (by decide +kernel) rfl
theorem tk_RX5_21 : Cond.methodLink RX5 21 Lib.Math.min.name ∈ tq_G := tq_g (i := 980) (by decide +kernel) rfl
theorem tk_RX5_27 : Cond.methodLink RX5 27 arraycopyName ∈ tq_G := tq_g (i := 983) (by decide +kernel) rfl
theorem tk_an : Cond.native arraycopyName ∈ tq_G := tq_g (i := 985) (by decide +kernel) rfl
theorem tk_as : Cond.static arraycopyName ∈ tq_G := tq_g (i := 984) (by decide +kernel) rfl
theorem tk_ai : Cond.initialized "java/lang/System" ∈ tq_G := tq_g (i := 140) (by decide +kernel) rfl
theorem tk_RX5_33 : Cond.methodLink RX5 33 yX5_union ∈ tq_G := tq_g (i := 1526) (by decide +kernel) rfl
theorem tk_y_X5_union : tq_yok yX5_union cX5_union 6 (some .int) 2 := ⟨tq_g (i := 727) (by decide +kernel) rfl, tq_g (i := 123) (by decide +kernel) rfl, ⟨by decide +kernel, by decide +kernel⟩, by decide +kernel, by decide⟩
theorem tk_v_X5_union : tq_vok yX5_union := ⟨tq_g (i := 725) (by decide +kernel) rfl, tq_g (i := 726) (by decide +kernel) rfl⟩
abbrev mX0_one : tq_M := (RX0, cX0_one, 1, (some .long), false, [])
def f_X0_one (a0 : Int32) (h : tq_H) : Option (Int64) :=
  tq_let (if a0 < 0 then (0 : Int64) else (if a0 ≥ (64 : Int32) then (0 : Int64) else ((1 : Int64) <<< (a0.toInt64 &&& 63)))) fun p1 =>
  some p1
set_option maxHeartbeats 4000000 in
set_option maxRecDepth 20000 in
theorem w_X0_one {l : Launch} {d : Nat} (hd9 : 0 ≤ d) {a0 : Int32} {h : tq_H} {o : Int64} {Q : tq_R → tq_H → Prop} (hf : f_X0_one a0 h = some o) (hQ : ∀ r h9, r = .inl (some (.long o)) ∧ h = h9 → Q r h9) : tq_C l yX0_one cX0_one 1 (some .long) d 0 0 [.int a0] h Q := by
  refine tq_body (y := yX0_one) false (by decide +kernel) (fun z => by cases z) (Nat.le_of_ble_eq_true rfl) ?_
  show tq_W l mX0_one d 0 0 Q 0 [(0, .int a0)] [] h
  refine tq_iload_n (M := mX0_one) (pc := 0) dX0_one_0 rfl ?_
  obtain ⟨p1, ep1, hf⟩ := tq_le hf
  have HJ1 : tq_W l mX0_one d 0 0 Q 17 [] [.long p1] h := by
    refine tq_lret (M := mX0_one) (pc := 17) dX0_one_17 rfl ?_
    cases (Option.some.inj hf)
    exact hQ _ _ ⟨rfl, rfl⟩
  refine tq_if_lt (M := mX0_one) (pc := 1) (tgt := 16) dX0_one_1 (by decide) (fun cc => ?_) (fun cc => ?_)
  · have hf := tq_ifp ep1.symm cc
    refine tq_lconst (M := mX0_one) (pc := 16) dX0_one_16 tk_kl_0 ?_
    refine tq_pick (L2 := []) [] rfl ?_
    cases hf
    exact HJ1
  · have hf := tq_ifn ep1.symm cc
    refine tq_iload_n (M := mX0_one) (pc := 4) dX0_one_4 rfl ?_
    refine tq_bipush (M := mX0_one) (pc := 5) dX0_one_5 tk_kb_64 ?_
    refine tq_icmp_ge (M := mX0_one) (pc := 7) (tgt := 16) dX0_one_7 (by decide) (fun cc => ?_) (fun cc => ?_)
    · have hf := tq_ifp hf cc
      refine tq_lconst (M := mX0_one) (pc := 16) dX0_one_16 tk_kl_0 ?_
      refine tq_pick (L2 := []) [] rfl ?_
      cases hf
      exact HJ1
    · have hf := tq_ifn hf cc
      refine tq_lconst (M := mX0_one) (pc := 10) dX0_one_10 tk_kl_1 ?_
      refine tq_iload_n (M := mX0_one) (pc := 11) dX0_one_11 rfl ?_
      refine tq_lshl (M := mX0_one) (pc := 12) dX0_one_12 ?_
      refine tq_goto (M := mX0_one) (pc := 13) (tgt := 17) dX0_one_13 (by decide) ?_
      refine tq_pick (L2 := []) [] rfl ?_
      cases hf
      exact HJ1
abbrev mX0_below : tq_M := (RX0, cX0_below, 1, (some .long), false, [])
def f_X0_below (a0 : Int32) (h : tq_H) : Option (Int64) :=
  if a0 > 0 then
    tq_let (if a0 < (64 : Int32) then (((1 : Int64) <<< (a0.toInt64 &&& 63)) - (1 : Int64)) else (-1 : Int64)) fun p1 =>
    some p1
  else
    some (0 : Int64)
set_option maxHeartbeats 4000000 in
set_option maxRecDepth 20000 in
theorem w_X0_below {l : Launch} {d : Nat} (hd9 : 0 ≤ d) {a0 : Int32} {h : tq_H} {o : Int64} {Q : tq_R → tq_H → Prop} (hf : f_X0_below a0 h = some o) (hQ : ∀ r h9, r = .inl (some (.long o)) ∧ h = h9 → Q r h9) : tq_C l yX0_below cX0_below 1 (some .long) d 0 0 [.int a0] h Q := by
  refine tq_body (y := yX0_below) false (by decide +kernel) (fun z => by cases z) (Nat.le_of_ble_eq_true rfl) ?_
  show tq_W l mX0_below d 0 0 Q 0 [(0, .int a0)] [] h
  refine tq_iload_n (M := mX0_below) (pc := 0) dX0_below_0 rfl ?_
  refine tq_if_gt (M := mX0_below) (pc := 1) (tgt := 6) dX0_below_1 (by decide) (fun cc => ?_) (fun cc => ?_)
  · have hf := tq_ifp hf cc
    refine tq_iload_n (M := mX0_below) (pc := 6) dX0_below_6 rfl ?_
    refine tq_bipush (M := mX0_below) (pc := 7) dX0_below_7 tk_kb_64 ?_
    obtain ⟨p1, ep1, hf⟩ := tq_le hf
    have HJ9 : tq_W l mX0_below d 0 0 Q 23 [] [.long p1] h := by
      refine tq_lret (M := mX0_below) (pc := 23) dX0_below_23 rfl ?_
      cases (Option.some.inj hf)
      exact hQ _ _ ⟨rfl, rfl⟩
    refine tq_icmp_lt (M := mX0_below) (pc := 9) (tgt := 18) dX0_below_9 (by decide) (fun cc => ?_) (fun cc => ?_)
    · have hf := tq_ifp ep1.symm cc
      refine tq_lconst (M := mX0_below) (pc := 18) dX0_below_18 tk_kl_1 ?_
      refine tq_iload_n (M := mX0_below) (pc := 19) dX0_below_19 rfl ?_
      refine tq_lshl (M := mX0_below) (pc := 20) dX0_below_20 ?_
      refine tq_lconst (M := mX0_below) (pc := 21) dX0_below_21 tk_kl_1 ?_
      refine tq_lsub (M := mX0_below) (pc := 22) dX0_below_22 ?_
      refine tq_pick (L2 := []) [] rfl ?_
      cases hf
      exact HJ9
    · have hf := tq_ifn ep1.symm cc
      refine tq_ldc2 (M := mX0_below) (pc := 12) dX0_below_12 tk_RX0_9 ?_
      refine tq_goto (M := mX0_below) (pc := 15) (tgt := 23) dX0_below_15 (by decide) ?_
      refine tq_pick (L2 := []) [] rfl ?_
      cases hf
      exact HJ9
  · have hf := tq_ifn hf cc
    refine tq_lconst (M := mX0_below) (pc := 4) dX0_below_4 tk_kl_0 ?_
    refine tq_lret (M := mX0_below) (pc := 5) dX0_below_5 rfl ?_
    cases (Option.some.inj hf)
    exact hQ _ _ ⟨rfl, rfl⟩
abbrev mX0_holds : tq_M := (RX0, cX0_holds, 3, (some .boolean), false, [])
def f_X0_holds (a0 : Int64) (a2 : Int32) (h : tq_H) : Option (Int32) :=
  tq_let (if a2 < 0 then (0 : Int32) else (if a2 ≥ (64 : Int32) then (0 : Int32) else if (lg_cmp (((a0).toUInt64 >>> (a2.toInt64.toUInt64 &&& Int64.toUInt64 63)).toInt64 &&& (1 : Int64)) (0 : Int64)) = 0 then (0 : Int32) else (1 : Int32))) fun p1 =>
  (tq_bz p1).bind fun z2 =>
  some z2
set_option maxHeartbeats 4000000 in
set_option maxRecDepth 20000 in
theorem w_X0_holds {l : Launch} {d : Nat} (hd9 : 0 ≤ d) {a0 : Int64} {a2 : Int32} {h : tq_H} {o : Int32} {Q : tq_R → tq_H → Prop} (hf : f_X0_holds a0 a2 h = some o) (hQ : ∀ r h9, r = .inl (some (.int o)) ∧ h = h9 → Q r h9) : tq_C l yX0_holds cX0_holds 3 (some .boolean) d 0 0 [.long a0, .int a2] h Q := by
  refine tq_body (y := yX0_holds) false (by decide +kernel) (fun z => by cases z) (Nat.le_of_ble_eq_true rfl) ?_
  show tq_W l mX0_holds d 0 0 Q 0 [(0, .long a0), (2, .int a2)] [] h
  refine tq_iload_n (M := mX0_holds) (pc := 0) dX0_holds_0 rfl ?_
  obtain ⟨p1, ep1, hf⟩ := tq_le hf
  have HJ1 : tq_W l mX0_holds d 0 0 Q 25 [] [.int p1] h := by
    obtain ⟨z2, ez2, hf⟩ := tq_be hf
    refine tq_zretB (M := mX0_holds) (pc := 25) dX0_holds_25 rfl ez2 ?_
    cases (Option.some.inj hf)
    exact hQ _ _ ⟨rfl, rfl⟩
  refine tq_if_lt (M := mX0_holds) (pc := 1) (tgt := 24) dX0_holds_1 (by decide) (fun cc => ?_) (fun cc => ?_)
  · have hf := tq_ifp ep1.symm cc
    refine tq_iconst (M := mX0_holds) (pc := 24) dX0_holds_24 tk_ki_0 ?_
    refine tq_pick (L2 := []) [] rfl ?_
    cases hf
    exact HJ1
  · have hf := tq_ifn ep1.symm cc
    refine tq_iload_n (M := mX0_holds) (pc := 4) dX0_holds_4 rfl ?_
    refine tq_bipush (M := mX0_holds) (pc := 5) dX0_holds_5 tk_kb_64 ?_
    refine tq_icmp_ge (M := mX0_holds) (pc := 7) (tgt := 24) dX0_holds_7 (by decide) (fun cc => ?_) (fun cc => ?_)
    · have hf := tq_ifp hf cc
      refine tq_iconst (M := mX0_holds) (pc := 24) dX0_holds_24 tk_ki_0 ?_
      refine tq_pick (L2 := []) [] rfl ?_
      cases hf
      exact HJ1
    · have hf := tq_ifn hf cc
      refine tq_lload_n (M := mX0_holds) (pc := 10) dX0_holds_10 rfl ?_
      refine tq_iload_n (M := mX0_holds) (pc := 11) dX0_holds_11 rfl ?_
      refine tq_lushr (M := mX0_holds) (pc := 12) dX0_holds_12 ?_
      refine tq_lconst (M := mX0_holds) (pc := 13) dX0_holds_13 tk_kl_1 ?_
      refine tq_land (M := mX0_holds) (pc := 14) dX0_holds_14 ?_
      refine tq_lconst (M := mX0_holds) (pc := 15) dX0_holds_15 tk_kl_0 ?_
      refine tq_lcmp (M := mX0_holds) (pc := 16) dX0_holds_16 ?_
      refine tq_if_eq (M := mX0_holds) (pc := 17) (tgt := 24) dX0_holds_17 (by decide) (fun cc => ?_) (fun cc => ?_)
      · have hf := tq_ifp hf cc
        refine tq_iconst (M := mX0_holds) (pc := 24) dX0_holds_24 tk_ki_0 ?_
        refine tq_pick (L2 := []) [] rfl ?_
        cases hf
        exact HJ1
      · have hf := tq_ifn hf cc
        refine tq_iconst (M := mX0_holds) (pc := 20) dX0_holds_20 tk_ki_1 ?_
        refine tq_goto (M := mX0_holds) (pc := 21) (tgt := 25) dX0_holds_21 (by decide) ?_
        refine tq_pick (L2 := []) [] rfl ?_
        cases hf
        exact HJ1
abbrev mJ13_bitCount_95d88 : tq_M := (RJ13, cJ13_bitCount_95d88, 2, (some .int), false, [])
def f_J13_bitCount_95d88 (a0 : Int64) (h : tq_H) : Option (Int32) :=
  tq_let ((a0 - (((a0).toUInt64 >>> ((1 : Int32).toInt64.toUInt64 &&& Int64.toUInt64 63)).toInt64 &&& (6148914691236517205 : Int64)))) fun x1 =>
  tq_let (((x1 &&& (3689348814741910323 : Int64)) + (((x1).toUInt64 >>> ((2 : Int32).toInt64.toUInt64 &&& Int64.toUInt64 63)).toInt64 &&& (3689348814741910323 : Int64)))) fun x2 =>
  tq_let (((x2 + ((x2).toUInt64 >>> ((4 : Int32).toInt64.toUInt64 &&& Int64.toUInt64 63)).toInt64) &&& (1085102592571150095 : Int64))) fun x3 =>
  tq_let ((x3 + ((x3).toUInt64 >>> ((8 : Int32).toInt64.toUInt64 &&& Int64.toUInt64 63)).toInt64)) fun x4 =>
  tq_let ((x4 + ((x4).toUInt64 >>> ((16 : Int32).toInt64.toUInt64 &&& Int64.toUInt64 63)).toInt64)) fun x5 =>
  tq_let ((x5 + ((x5).toUInt64 >>> ((32 : Int32).toInt64.toUInt64 &&& Int64.toUInt64 63)).toInt64)) fun x6 =>
  some ((x6).toInt32 &&& (127 : Int32))
set_option maxHeartbeats 4000000 in
set_option maxRecDepth 20000 in
theorem w_J13_bitCount_95d88 {l : Launch} {d : Nat} (hd9 : 0 ≤ d) {a0 : Int64} {h : tq_H} {o : Int32} {Q : tq_R → tq_H → Prop} (hf : f_J13_bitCount_95d88 a0 h = some o) (hQ : ∀ r h9, r = .inl (some (.int o)) ∧ h = h9 → Q r h9) : tq_C l yJ13_bitCount_95d88 cJ13_bitCount_95d88 2 (some .int) d 0 0 [.long a0] h Q := by
  refine tq_body (y := yJ13_bitCount_95d88) false (by decide +kernel) (fun z => by cases z) (Nat.le_of_ble_eq_true rfl) ?_
  show tq_W l mJ13_bitCount_95d88 d 0 0 Q 0 [(0, .long a0)] [] h
  refine tq_lload_n (M := mJ13_bitCount_95d88) (pc := 0) dJ13_bitCount_95d88_0 rfl ?_
  refine tq_lload_n (M := mJ13_bitCount_95d88) (pc := 1) dJ13_bitCount_95d88_1 rfl ?_
  refine tq_iconst (M := mJ13_bitCount_95d88) (pc := 2) dJ13_bitCount_95d88_2 tk_ki_1 ?_
  refine tq_lushr (M := mJ13_bitCount_95d88) (pc := 3) dJ13_bitCount_95d88_3 ?_
  refine tq_ldc2 (M := mJ13_bitCount_95d88) (pc := 4) dJ13_bitCount_95d88_4 tk_RJ13_314 ?_
  refine tq_land (M := mJ13_bitCount_95d88) (pc := 7) dJ13_bitCount_95d88_7 ?_
  refine tq_lsub (M := mJ13_bitCount_95d88) (pc := 8) dJ13_bitCount_95d88_8 ?_
  obtain ⟨x1, ex1, hf⟩ := tq_le hf
  refine tq_lstore_n (M := mJ13_bitCount_95d88) (pc := 9) rfl dJ13_bitCount_95d88_9 (L2 := [(0, .long x1)]) (by decide) (by rw [ex1]; rfl) ?_
  refine tq_lload_n (M := mJ13_bitCount_95d88) (pc := 10) dJ13_bitCount_95d88_10 rfl ?_
  refine tq_ldc2 (M := mJ13_bitCount_95d88) (pc := 11) dJ13_bitCount_95d88_11 tk_RJ13_316 ?_
  refine tq_land (M := mJ13_bitCount_95d88) (pc := 14) dJ13_bitCount_95d88_14 ?_
  refine tq_lload_n (M := mJ13_bitCount_95d88) (pc := 15) dJ13_bitCount_95d88_15 rfl ?_
  refine tq_iconst (M := mJ13_bitCount_95d88) (pc := 16) dJ13_bitCount_95d88_16 tk_ki_2 ?_
  refine tq_lushr (M := mJ13_bitCount_95d88) (pc := 17) dJ13_bitCount_95d88_17 ?_
  refine tq_ldc2 (M := mJ13_bitCount_95d88) (pc := 18) dJ13_bitCount_95d88_18 tk_RJ13_316 ?_
  refine tq_land (M := mJ13_bitCount_95d88) (pc := 21) dJ13_bitCount_95d88_21 ?_
  refine tq_ladd (M := mJ13_bitCount_95d88) (pc := 22) dJ13_bitCount_95d88_22 ?_
  obtain ⟨x2, ex2, hf⟩ := tq_le hf
  refine tq_lstore_n (M := mJ13_bitCount_95d88) (pc := 23) rfl dJ13_bitCount_95d88_23 (L2 := [(0, .long x2)]) (by decide) (by rw [ex2]; rfl) ?_
  refine tq_lload_n (M := mJ13_bitCount_95d88) (pc := 24) dJ13_bitCount_95d88_24 rfl ?_
  refine tq_lload_n (M := mJ13_bitCount_95d88) (pc := 25) dJ13_bitCount_95d88_25 rfl ?_
  refine tq_iconst (M := mJ13_bitCount_95d88) (pc := 26) dJ13_bitCount_95d88_26 tk_ki_4 ?_
  refine tq_lushr (M := mJ13_bitCount_95d88) (pc := 27) dJ13_bitCount_95d88_27 ?_
  refine tq_ladd (M := mJ13_bitCount_95d88) (pc := 28) dJ13_bitCount_95d88_28 ?_
  refine tq_ldc2 (M := mJ13_bitCount_95d88) (pc := 29) dJ13_bitCount_95d88_29 tk_RJ13_318 ?_
  refine tq_land (M := mJ13_bitCount_95d88) (pc := 32) dJ13_bitCount_95d88_32 ?_
  obtain ⟨x3, ex3, hf⟩ := tq_le hf
  refine tq_lstore_n (M := mJ13_bitCount_95d88) (pc := 33) rfl dJ13_bitCount_95d88_33 (L2 := [(0, .long x3)]) (by decide) (by rw [ex3]; rfl) ?_
  refine tq_lload_n (M := mJ13_bitCount_95d88) (pc := 34) dJ13_bitCount_95d88_34 rfl ?_
  refine tq_lload_n (M := mJ13_bitCount_95d88) (pc := 35) dJ13_bitCount_95d88_35 rfl ?_
  refine tq_bipush (M := mJ13_bitCount_95d88) (pc := 36) dJ13_bitCount_95d88_36 tk_kb_8 ?_
  refine tq_lushr (M := mJ13_bitCount_95d88) (pc := 38) dJ13_bitCount_95d88_38 ?_
  refine tq_ladd (M := mJ13_bitCount_95d88) (pc := 39) dJ13_bitCount_95d88_39 ?_
  obtain ⟨x4, ex4, hf⟩ := tq_le hf
  refine tq_lstore_n (M := mJ13_bitCount_95d88) (pc := 40) rfl dJ13_bitCount_95d88_40 (L2 := [(0, .long x4)]) (by decide) (by rw [ex4]; rfl) ?_
  refine tq_lload_n (M := mJ13_bitCount_95d88) (pc := 41) dJ13_bitCount_95d88_41 rfl ?_
  refine tq_lload_n (M := mJ13_bitCount_95d88) (pc := 42) dJ13_bitCount_95d88_42 rfl ?_
  refine tq_bipush (M := mJ13_bitCount_95d88) (pc := 43) dJ13_bitCount_95d88_43 tk_kb_16 ?_
  refine tq_lushr (M := mJ13_bitCount_95d88) (pc := 45) dJ13_bitCount_95d88_45 ?_
  refine tq_ladd (M := mJ13_bitCount_95d88) (pc := 46) dJ13_bitCount_95d88_46 ?_
  obtain ⟨x5, ex5, hf⟩ := tq_le hf
  refine tq_lstore_n (M := mJ13_bitCount_95d88) (pc := 47) rfl dJ13_bitCount_95d88_47 (L2 := [(0, .long x5)]) (by decide) (by rw [ex5]; rfl) ?_
  refine tq_lload_n (M := mJ13_bitCount_95d88) (pc := 48) dJ13_bitCount_95d88_48 rfl ?_
  refine tq_lload_n (M := mJ13_bitCount_95d88) (pc := 49) dJ13_bitCount_95d88_49 rfl ?_
  refine tq_bipush (M := mJ13_bitCount_95d88) (pc := 50) dJ13_bitCount_95d88_50 tk_kb_32 ?_
  refine tq_lushr (M := mJ13_bitCount_95d88) (pc := 52) dJ13_bitCount_95d88_52 ?_
  refine tq_ladd (M := mJ13_bitCount_95d88) (pc := 53) dJ13_bitCount_95d88_53 ?_
  obtain ⟨x6, ex6, hf⟩ := tq_le hf
  refine tq_lstore_n (M := mJ13_bitCount_95d88) (pc := 54) rfl dJ13_bitCount_95d88_54 (L2 := [(0, .long x6)]) (by decide) (by rw [ex6]; rfl) ?_
  refine tq_lload_n (M := mJ13_bitCount_95d88) (pc := 55) dJ13_bitCount_95d88_55 rfl ?_
  refine tq_l2i (M := mJ13_bitCount_95d88) (pc := 56) dJ13_bitCount_95d88_56 ?_
  refine tq_bipush (M := mJ13_bitCount_95d88) (pc := 57) dJ13_bitCount_95d88_57 tk_kb_127 ?_
  refine tq_iand (M := mJ13_bitCount_95d88) (pc := 59) dJ13_bitCount_95d88_59 ?_
  refine tq_iret (M := mJ13_bitCount_95d88) (pc := 60) dJ13_bitCount_95d88_60 rfl ?_
  cases (Option.some.inj hf)
  exact hQ _ _ ⟨rfl, rfl⟩
abbrev mX0_lowest : tq_M := (RX0, cX0_lowest, 2, (some .int), false, [])
def f_X0_lowest (a0 : Int64) (h : tq_H) : Option (Int32) :=
  (if (lg_cmp a0 (0 : Int64)) = 0 then
    some (-1 : Int32)
  else
    (f_J13_bitCount_95d88 ((a0 &&& (-a0)) - (1 : Int64)) h).bind fun v1 =>
    some v1).bind fun p2 =>
  some p2
set_option maxHeartbeats 4000000 in
set_option maxRecDepth 20000 in
theorem w_X0_lowest {l : Launch} {d : Nat} (hd9 : 1 ≤ d) {a0 : Int64} {h : tq_H} {o : Int32} {Q : tq_R → tq_H → Prop} (hf : f_X0_lowest a0 h = some o) (hQ : ∀ r h9, r = .inl (some (.int o)) ∧ h = h9 → Q r h9) : tq_C l yX0_lowest cX0_lowest 2 (some .int) d 0 0 [.long a0] h Q := by
  refine tq_body (y := yX0_lowest) false (by decide +kernel) (fun z => by cases z) (Nat.le_of_ble_eq_true rfl) ?_
  show tq_W l mX0_lowest d 0 0 Q 0 [(0, .long a0)] [] h
  refine tq_lload_n (M := mX0_lowest) (pc := 0) dX0_lowest_0 rfl ?_
  refine tq_lconst (M := mX0_lowest) (pc := 1) dX0_lowest_1 tk_kl_0 ?_
  refine tq_lcmp (M := mX0_lowest) (pc := 2) dX0_lowest_2 ?_
  obtain ⟨p2, ep2, hf⟩ := tq_be hf
  have HJ3 : tq_W l mX0_lowest d 0 0 Q 19 [] [.int p2] h := by
    refine tq_iret (M := mX0_lowest) (pc := 19) dX0_lowest_19 rfl ?_
    cases (Option.some.inj hf)
    exact hQ _ _ ⟨rfl, rfl⟩
  refine tq_if_ne (M := mX0_lowest) (pc := 3) (tgt := 10) dX0_lowest_3 (by decide) (fun cc => ?_) (fun cc => ?_)
  · have hf := tq_ifn ep2 cc
    refine tq_lload_n (M := mX0_lowest) (pc := 10) dX0_lowest_10 rfl ?_
    refine tq_lload_n (M := mX0_lowest) (pc := 11) dX0_lowest_11 rfl ?_
    refine tq_lneg (M := mX0_lowest) (pc := 12) dX0_lowest_12 ?_
    refine tq_land (M := mX0_lowest) (pc := 13) dX0_lowest_13 ?_
    refine tq_lconst (M := mX0_lowest) (pc := 14) dX0_lowest_14 tk_kl_1 ?_
    refine tq_lsub (M := mX0_lowest) (pc := 15) dX0_lowest_15 ?_
    obtain ⟨v1, ev1, hf⟩ := tq_be hf
    refine tq_calS (M := mX0_lowest) (pc := 16) (S := []) tk_y_J13_bitCount_95d88 tk_s_J13_bitCount_95d88 tk_RX0_11 dX0_lowest_16 [.long (((a0 &&& (-a0)) - (1 : Int64)))] rfl (Nat.le_of_ble_eq_true rfl) (d1 := d - 1) (b1 := 0) (s1 := 0) (bc' := 0) (bs' := 0) (Q1 := fun r h9 => r = .inl (some (.int v1)) ∧ h = h9) (by omega) rfl rfl (w_J13_bitCount_95d88 (by omega) ev1 (fun _ _ q => q)) (fun E h9 q => nomatch (show (Sum.inr E : tq_R) = Sum.inl _ from q.1)) (fun r9 h9 q => ?_)
    obtain ⟨q1, rfl⟩ := q
    cases (show (Sum.inl r9 : tq_R) = Sum.inl (some (.int v1)) from q1)
    refine tq_pick (L2 := []) [] rfl ?_
    cases (Option.some.inj hf)
    exact HJ3
  · have hf := tq_ifp ep2 cc
    refine tq_iconst (M := mX0_lowest) (pc := 6) dX0_lowest_6 tk_ki_m1 ?_
    refine tq_goto (M := mX0_lowest) (pc := 7) (tgt := 19) dX0_lowest_7 (by decide) ?_
    refine tq_pick (L2 := []) [] rfl ?_
    cases (Option.some.inj hf)
    exact HJ3
abbrev mX0_memberAt : tq_M := (RX0, cX0_memberAt, 6, (some .int), false, [])
def f_X0_memberAt_b19 (i2 : Int32) (hh : tq_H) (s : Int64 × Int32) : Option ((Int64 × Int32) ⊕ (Int64)) := match s with
  | (y3, y5) =>
    if y5 ≥ i2 then
      some (.inr y3)
    else
      tq_let ((y3 &&& (y3 - (1 : Int64)))) fun x2 =>
      tq_let (y5 + (1 : Int32)) fun x3 =>
      some (.inl (x2, x3))
def f_X0_memberAt (a0 : Int64) (a2 : Int32) (h : tq_H) : Option (Int32) :=
  if a2 < 0 then
    some (-1 : Int32)
  else
    (f_J13_bitCount_95d88 a0 h).bind fun v1 =>
    if a2 < v1 then
      (tq_loop (f_X0_memberAt_b19 a2 h) tq_N (a0, (0 : Int32))).bind fun o4 =>
      (f_X0_lowest o4 h).bind fun v5 =>
      some v5
    else
      some (-1 : Int32)
set_option maxHeartbeats 4000000 in
theorem l_X0_memberAt_19 {l : Launch} {d : Nat} {Q : tq_R → tq_H → Prop} (hd9 : 2 ≤ d) (i2 : Int32) (hh : tq_H) : ∀ (n : Nat) (y3 : Int64) (y5 : Int32) (o : Int64), tq_loop (f_X0_memberAt_b19 i2 hh) n (y3, y5) = some o → tq_W l mX0_memberAt d 0 0 Q 37 [(3, .long o)] [] hh → tq_W l mX0_memberAt d 0 0 Q 19 [(2, .int i2), (3, .long y3), (5, .int y5)] [] hh := by
  intro n
  induction n with
  | zero => intro y3 y5 o hl; cases hl
  | succ n ih =>
    intro y3 y5 o hl hk
    obtain ⟨oo, hf, ho⟩ := tq_loop_s hl
    refine tq_iload (M := mX0_memberAt) (pc := 19) dX0_memberAt_19 rfl ?_
    refine tq_iload_n (M := mX0_memberAt) (pc := 21) dX0_memberAt_21 rfl ?_
    refine tq_icmp_ge (M := mX0_memberAt) (pc := 22) (tgt := 37) dX0_memberAt_22 (by decide) (fun cc => ?_) (fun cc => ?_)
    · have hf := tq_ifp hf cc
      refine tq_pick (L2 := [(3, .long y3)]) [1] rfl ?_
      cases (Option.some.inj hf)
      cases (tq_lx ho)
      exact hk
    · have hf := tq_ifn hf cc
      refine tq_lload_n (M := mX0_memberAt) (pc := 25) dX0_memberAt_25 rfl ?_
      refine tq_lload_n (M := mX0_memberAt) (pc := 26) dX0_memberAt_26 rfl ?_
      refine tq_lconst (M := mX0_memberAt) (pc := 27) dX0_memberAt_27 tk_kl_1 ?_
      refine tq_lsub (M := mX0_memberAt) (pc := 28) dX0_memberAt_28 ?_
      refine tq_land (M := mX0_memberAt) (pc := 29) dX0_memberAt_29 ?_
      obtain ⟨x2, ex2, hf⟩ := tq_le hf
      refine tq_lstore_n (M := mX0_memberAt) (pc := 30) rfl dX0_memberAt_30 (L2 := [(3, .long x2), (2, .int i2), (5, .int y5)]) (by decide) (by rw [ex2]; rfl) ?_
      obtain ⟨x3, ex3, hf⟩ := tq_le hf
      refine tq_iinc (M := mX0_memberAt) (pc := 31) (v := x3) (L2 := [(5, .int x3), (3, .long x2), (2, .int i2)]) dX0_memberAt_31 rfl (by rw [ex3, tk_ki_1]) (by decide) rfl ?_
      refine tq_goto (M := mX0_memberAt) (pc := 34) (tgt := 19) dX0_memberAt_34 (by decide) ?_
      refine tq_pick (L2 := [(2, .int i2), (3, .long x2), (5, .int x3)]) [2, 1, 0] rfl ?_
      cases (Option.some.inj hf)
      exact ih _ _ o (tq_lc ho) hk
set_option maxHeartbeats 4000000 in
set_option maxRecDepth 20000 in
theorem w_X0_memberAt {l : Launch} {d : Nat} (hd9 : 2 ≤ d) {a0 : Int64} {a2 : Int32} {h : tq_H} {o : Int32} {Q : tq_R → tq_H → Prop} (hf : f_X0_memberAt a0 a2 h = some o) (hQ : ∀ r h9, r = .inl (some (.int o)) ∧ h = h9 → Q r h9) : tq_C l yX0_memberAt cX0_memberAt 6 (some .int) d 0 0 [.long a0, .int a2] h Q := by
  refine tq_body (y := yX0_memberAt) false (by decide +kernel) (fun z => by cases z) (Nat.le_of_ble_eq_true rfl) ?_
  show tq_W l mX0_memberAt d 0 0 Q 0 [(0, .long a0), (2, .int a2)] [] h
  refine tq_iload_n (M := mX0_memberAt) (pc := 0) dX0_memberAt_0 rfl ?_
  refine tq_if_lt (M := mX0_memberAt) (pc := 1) (tgt := 12) dX0_memberAt_1 (by decide) (fun cc => ?_) (fun cc => ?_)
  · have hf := tq_ifp hf cc
    refine tq_iconst (M := mX0_memberAt) (pc := 12) dX0_memberAt_12 tk_ki_m1 ?_
    refine tq_iret (M := mX0_memberAt) (pc := 13) dX0_memberAt_13 rfl ?_
    cases (Option.some.inj hf)
    exact hQ _ _ ⟨rfl, rfl⟩
  · have hf := tq_ifn hf cc
    refine tq_iload_n (M := mX0_memberAt) (pc := 4) dX0_memberAt_4 rfl ?_
    refine tq_lload_n (M := mX0_memberAt) (pc := 5) dX0_memberAt_5 rfl ?_
    obtain ⟨v1, ev1, hf⟩ := tq_be hf
    refine tq_calS (M := mX0_memberAt) (pc := 6) (S := [.int a2]) tk_y_J13_bitCount_95d88 tk_s_J13_bitCount_95d88 tk_RX0_11 dX0_memberAt_6 [.long a0] rfl (Nat.le_of_ble_eq_true rfl) (d1 := d - 1) (b1 := 0) (s1 := 0) (bc' := 0) (bs' := 0) (Q1 := fun r h9 => r = .inl (some (.int v1)) ∧ h = h9) (by omega) rfl rfl (w_J13_bitCount_95d88 (by omega) ev1 (fun _ _ q => q)) (fun E h9 q => nomatch (show (Sum.inr E : tq_R) = Sum.inl _ from q.1)) (fun r9 h9 q => ?_)
    obtain ⟨q1, rfl⟩ := q
    cases (show (Sum.inl r9 : tq_R) = Sum.inl (some (.int v1)) from q1)
    refine tq_icmp_lt (M := mX0_memberAt) (pc := 9) (tgt := 14) dX0_memberAt_9 (by decide) (fun cc => ?_) (fun cc => ?_)
    · have hf := tq_ifp hf cc
      refine tq_lload_n (M := mX0_memberAt) (pc := 14) dX0_memberAt_14 rfl ?_
      refine tq_lstore_n (M := mX0_memberAt) (pc := 15) rfl dX0_memberAt_15 (L2 := [(3, .long a0), (0, .long a0), (2, .int a2)]) (by decide) rfl ?_
      refine tq_iconst (M := mX0_memberAt) (pc := 16) dX0_memberAt_16 tk_ki_0 ?_
      refine tq_istore (M := mX0_memberAt) (pc := 17) dX0_memberAt_17 (L2 := [(5, .int (0 : Int32)), (3, .long a0), (0, .long a0), (2, .int a2)]) (by decide) rfl ?_
      obtain ⟨o4, eo4, hf⟩ := tq_be hf
      refine tq_pick (L2 := [(2, .int a2), (3, .long a0), (5, .int (0 : Int32))]) [3, 1, 0] rfl ?_
      refine l_X0_memberAt_19 (by omega) a2 h _ a0 (0 : Int32) _ eo4 ?_
      refine tq_lload_n (M := mX0_memberAt) (pc := 37) dX0_memberAt_37 rfl ?_
      obtain ⟨v5, ev5, hf⟩ := tq_be hf
      refine tq_calS (M := mX0_memberAt) (pc := 38) (S := []) tk_y_X0_lowest tk_s_X0_lowest tk_RX0_17 dX0_memberAt_38 [.long o4] rfl (Nat.le_of_ble_eq_true rfl) (d1 := d - 1) (b1 := 0) (s1 := 0) (bc' := 0) (bs' := 0) (Q1 := fun r h9 => r = .inl (some (.int v5)) ∧ h = h9) (by omega) rfl rfl (w_X0_lowest (by omega) ev5 (fun _ _ q => q)) (fun E h9 q => nomatch (show (Sum.inr E : tq_R) = Sum.inl _ from q.1)) (fun r9 h9 q => ?_)
      obtain ⟨q1, rfl⟩ := q
      cases (show (Sum.inl r9 : tq_R) = Sum.inl (some (.int v5)) from q1)
      refine tq_iret (M := mX0_memberAt) (pc := 41) dX0_memberAt_41 rfl ?_
      cases (Option.some.inj hf)
      exact hQ _ _ ⟨rfl, rfl⟩
    · have hf := tq_ifn hf cc
      refine tq_iconst (M := mX0_memberAt) (pc := 12) dX0_memberAt_12 tk_ki_m1 ?_
      refine tq_iret (M := mX0_memberAt) (pc := 13) dX0_memberAt_13 rfl ?_
      cases (Option.some.inj hf)
      exact hQ _ _ ⟨rfl, rfl⟩
abbrev mX0_agrees : tq_M := (RX0, cX0_agrees, 3, (some .boolean), false, [])
def f_X0_agrees (a0 : Int32) (a1 : Int32) (a2 : Int32) (h : tq_H) : Option (Int32) :=
  if a1 = 0 then
    tq_let (if a0 = a2 then (1 : Int32) else (0 : Int32)) fun p3 =>
    (tq_bz p3).bind fun z4 =>
    some z4
  else
    tq_let (if a1 = (1 : Int32) then (if a0 ≥ a2 then (0 : Int32) else (1 : Int32)) else (if a0 ≤ a2 then (0 : Int32) else (1 : Int32))) fun p1 =>
    (tq_bz p1).bind fun z2 =>
    some z2
set_option maxHeartbeats 4000000 in
set_option maxRecDepth 20000 in
theorem w_X0_agrees {l : Launch} {d : Nat} (hd9 : 0 ≤ d) {a0 : Int32} {a1 : Int32} {a2 : Int32} {h : tq_H} {o : Int32} {Q : tq_R → tq_H → Prop} (hf : f_X0_agrees a0 a1 a2 h = some o) (hQ : ∀ r h9, r = .inl (some (.int o)) ∧ h = h9 → Q r h9) : tq_C l yX0_agrees cX0_agrees 3 (some .boolean) d 0 0 [.int a0, .int a1, .int a2] h Q := by
  refine tq_body (y := yX0_agrees) false (by decide +kernel) (fun z => by cases z) (Nat.le_of_ble_eq_true rfl) ?_
  show tq_W l mX0_agrees d 0 0 Q 0 [(0, .int a0), (1, .int a1), (2, .int a2)] [] h
  refine tq_iload_n (M := mX0_agrees) (pc := 0) dX0_agrees_0 rfl ?_
  refine tq_if_ne (M := mX0_agrees) (pc := 1) (tgt := 15) dX0_agrees_1 (by decide) (fun cc => ?_) (fun cc => ?_)
  · have hf := tq_ifn hf cc
    refine tq_iload_n (M := mX0_agrees) (pc := 15) dX0_agrees_15 rfl ?_
    refine tq_iconst (M := mX0_agrees) (pc := 16) dX0_agrees_16 tk_ki_1 ?_
    obtain ⟨p1, ep1, hf⟩ := tq_le hf
    have HJ17 : tq_W l mX0_agrees d 0 0 Q 43 [] [.int p1] h := by
      obtain ⟨z2, ez2, hf⟩ := tq_be hf
      refine tq_zretB (M := mX0_agrees) (pc := 43) dX0_agrees_43 rfl ez2 ?_
      cases (Option.some.inj hf)
      exact hQ _ _ ⟨rfl, rfl⟩
    refine tq_icmp_ne (M := mX0_agrees) (pc := 17) (tgt := 33) dX0_agrees_17 (by decide) (fun cc => ?_) (fun cc => ?_)
    · have hf := tq_ifn ep1.symm cc
      refine tq_iload_n (M := mX0_agrees) (pc := 33) dX0_agrees_33 rfl ?_
      refine tq_iload_n (M := mX0_agrees) (pc := 34) dX0_agrees_34 rfl ?_
      refine tq_icmp_le (M := mX0_agrees) (pc := 35) (tgt := 42) dX0_agrees_35 (by decide) (fun cc => ?_) (fun cc => ?_)
      · have hf := tq_ifp hf cc
        refine tq_iconst (M := mX0_agrees) (pc := 42) dX0_agrees_42 tk_ki_0 ?_
        refine tq_pick (L2 := []) [] rfl ?_
        cases hf
        exact HJ17
      · have hf := tq_ifn hf cc
        refine tq_iconst (M := mX0_agrees) (pc := 38) dX0_agrees_38 tk_ki_1 ?_
        refine tq_goto (M := mX0_agrees) (pc := 39) (tgt := 43) dX0_agrees_39 (by decide) ?_
        refine tq_pick (L2 := []) [] rfl ?_
        cases hf
        exact HJ17
    · have hf := tq_ifp ep1.symm cc
      refine tq_iload_n (M := mX0_agrees) (pc := 20) dX0_agrees_20 rfl ?_
      refine tq_iload_n (M := mX0_agrees) (pc := 21) dX0_agrees_21 rfl ?_
      refine tq_icmp_ge (M := mX0_agrees) (pc := 22) (tgt := 29) dX0_agrees_22 (by decide) (fun cc => ?_) (fun cc => ?_)
      · have hf := tq_ifp hf cc
        refine tq_iconst (M := mX0_agrees) (pc := 29) dX0_agrees_29 tk_ki_0 ?_
        refine tq_goto (M := mX0_agrees) (pc := 30) (tgt := 43) dX0_agrees_30 (by decide) ?_
        refine tq_pick (L2 := []) [] rfl ?_
        cases hf
        exact HJ17
      · have hf := tq_ifn hf cc
        refine tq_iconst (M := mX0_agrees) (pc := 25) dX0_agrees_25 tk_ki_1 ?_
        refine tq_goto (M := mX0_agrees) (pc := 26) (tgt := 43) dX0_agrees_26 (by decide) ?_
        refine tq_pick (L2 := []) [] rfl ?_
        cases hf
        exact HJ17
  · have hf := tq_ifp hf cc
    refine tq_iload_n (M := mX0_agrees) (pc := 4) dX0_agrees_4 rfl ?_
    refine tq_iload_n (M := mX0_agrees) (pc := 5) dX0_agrees_5 rfl ?_
    obtain ⟨p3, ep3, hf⟩ := tq_le hf
    have HJ6 : tq_W l mX0_agrees d 0 0 Q 14 [] [.int p3] h := by
      obtain ⟨z4, ez4, hf⟩ := tq_be hf
      refine tq_zretB (M := mX0_agrees) (pc := 14) dX0_agrees_14 rfl ez4 ?_
      cases (Option.some.inj hf)
      exact hQ _ _ ⟨rfl, rfl⟩
    refine tq_icmp_ne (M := mX0_agrees) (pc := 6) (tgt := 13) dX0_agrees_6 (by decide) (fun cc => ?_) (fun cc => ?_)
    · have hf := tq_ifn ep3.symm cc
      refine tq_iconst (M := mX0_agrees) (pc := 13) dX0_agrees_13 tk_ki_0 ?_
      refine tq_pick (L2 := []) [] rfl ?_
      cases hf
      exact HJ6
    · have hf := tq_ifp ep3.symm cc
      refine tq_iconst (M := mX0_agrees) (pc := 9) dX0_agrees_9 tk_ki_1 ?_
      refine tq_goto (M := mX0_agrees) (pc := 10) (tgt := 14) dX0_agrees_10 (by decide) ?_
      refine tq_pick (L2 := []) [] rfl ?_
      cases hf
      exact HJ6
abbrev mJ7_fill_53178 : tq_M := (RJ7, cJ7_fill_53178, 4, none, false, [])
def f_J7_fill_53178_b5 (i0 : Nat) (i1 : Int32) (i3 : Int32) (s : Int32 × tq_H) : Option ((Int32 × tq_H) ⊕ (tq_H)) := match s with
  | (y2, hh) =>
    if y2 ≥ i3 then
      some (.inr hh)
    else
      (tq_si hh i0 y2 i1).bind fun h2 =>
      tq_let (y2 + (1 : Int32)) fun x3 =>
      some (.inl (x3, h2))
def f_J7_fill_53178 (a0 : Nat) (a1 : Int32) (h : tq_H) : Option (tq_H) :=
  (tq_an h a0).bind fun x1 =>
  (tq_loop (f_J7_fill_53178_b5 a0 a1 x1) tq_N ((0 : Int32), h)).bind fun o4 =>
  some o4
set_option maxHeartbeats 4000000 in
theorem l_J7_fill_53178_5 {l : Launch} {d : Nat} {Q : tq_R → tq_H → Prop} (hd9 : 0 ≤ d) (i0 : Nat) (i1 : Int32) (i3 : Int32) : ∀ (n : Nat) (y2 : Int32) (hh : tq_H) (o : tq_H), tq_loop (f_J7_fill_53178_b5 i0 i1 i3) n (y2, hh) = some o → tq_W l mJ7_fill_53178 d 0 0 Q 20 [] [] o → tq_W l mJ7_fill_53178 d 0 0 Q 5 [(0, .ref i0), (1, .int i1), (2, .int y2), (3, .int i3)] [] hh := by
  intro n
  induction n with
  | zero => intro y2 hh o hl; cases hl
  | succ n ih =>
    intro y2 hh o hl hk
    obtain ⟨oo, hf, ho⟩ := tq_loop_s hl
    refine tq_iload_n (M := mJ7_fill_53178) (pc := 5) dJ7_fill_53178_5 rfl ?_
    refine tq_iload_n (M := mJ7_fill_53178) (pc := 6) dJ7_fill_53178_6 rfl ?_
    refine tq_icmp_ge (M := mJ7_fill_53178) (pc := 7) (tgt := 20) dJ7_fill_53178_7 (by decide) (fun cc => ?_) (fun cc => ?_)
    · have hf := tq_ifp hf cc
      refine tq_pick (L2 := []) [] rfl ?_
      cases (Option.some.inj hf)
      cases (tq_lx ho)
      exact hk
    · have hf := tq_ifn hf cc
      refine tq_aload_n (M := mJ7_fill_53178) (pc := 10) dJ7_fill_53178_10 rfl ?_
      refine tq_iload_n (M := mJ7_fill_53178) (pc := 11) dJ7_fill_53178_11 rfl ?_
      refine tq_iload_n (M := mJ7_fill_53178) (pc := 12) dJ7_fill_53178_12 rfl ?_
      obtain ⟨h2, eh2, hf⟩ := tq_be hf
      refine tq_iastF (M := mJ7_fill_53178) (pc := 13) dJ7_fill_53178_13 eh2 ?_
      obtain ⟨x3, ex3, hf⟩ := tq_le hf
      refine tq_iinc (M := mJ7_fill_53178) (pc := 14) (v := x3) (L2 := [(2, .int x3), (0, .ref i0), (1, .int i1), (3, .int i3)]) dJ7_fill_53178_14 rfl (by rw [ex3, tk_ki_1]) (by decide) rfl ?_
      refine tq_goto (M := mJ7_fill_53178) (pc := 17) (tgt := 5) dJ7_fill_53178_17 (by decide) ?_
      refine tq_pick (L2 := [(0, .ref i0), (1, .int i1), (2, .int x3), (3, .int i3)]) [1, 2, 0, 3] rfl ?_
      cases (Option.some.inj hf)
      exact ih _ _ o (tq_lc ho) hk
set_option maxHeartbeats 4000000 in
set_option maxRecDepth 20000 in
theorem w_J7_fill_53178 {l : Launch} {d : Nat} (hd9 : 0 ≤ d) {a0 : Nat} {a1 : Int32} {h : tq_H} {o : tq_H} {Q : tq_R → tq_H → Prop} (hf : f_J7_fill_53178 a0 a1 h = some o) (hQ : ∀ r h9, r = .inl none ∧ o = h9 → Q r h9) : tq_C l yJ7_fill_53178 cJ7_fill_53178 4 none d 0 0 [.ref a0, .int a1] h Q := by
  refine tq_body (y := yJ7_fill_53178) false (by decide +kernel) (fun z => by cases z) (Nat.le_of_ble_eq_true rfl) ?_
  show tq_W l mJ7_fill_53178 d 0 0 Q 0 [(0, .ref a0), (1, .int a1)] [] h
  refine tq_iconst (M := mJ7_fill_53178) (pc := 0) dJ7_fill_53178_0 tk_ki_0 ?_
  refine tq_istore_n (M := mJ7_fill_53178) (pc := 1) rfl dJ7_fill_53178_1 (L2 := [(2, .int (0 : Int32)), (0, .ref a0), (1, .int a1)]) (by decide) rfl ?_
  refine tq_aload_n (M := mJ7_fill_53178) (pc := 2) dJ7_fill_53178_2 rfl ?_
  obtain ⟨x1, ex1, hf⟩ := tq_be hf
  refine tq_alenF (M := mJ7_fill_53178) (pc := 3) dJ7_fill_53178_3 ex1 ?_
  refine tq_istore_n (M := mJ7_fill_53178) (pc := 4) rfl dJ7_fill_53178_4 (L2 := [(3, .int x1), (2, .int (0 : Int32)), (0, .ref a0), (1, .int a1)]) (by decide) rfl ?_
  obtain ⟨o4, eo4, hf⟩ := tq_be hf
  refine tq_pick (L2 := [(0, .ref a0), (1, .int a1), (2, .int (0 : Int32)), (3, .int x1)]) [2, 3, 1, 0] rfl ?_
  refine l_J7_fill_53178_5 (by omega) a0 a1 x1 _ (0 : Int32) h _ eo4 ?_
  refine tq_vret (M := mJ7_fill_53178) (pc := 20) dJ7_fill_53178_20 rfl ?_
  cases (Option.some.inj hf)
  exact hQ _ _ ⟨rfl, rfl⟩
abbrev mX5_init : tq_M := (RX5, cX5_init, 3, none, true, [])
def f_X5_init (t : Nat) (a1 : Int32) (a2 : Int32) (h : tq_H) : Option (tq_H) :=
  tq_let (if a1 ≥ 0 then a1 else (0 : Int32)) fun p1 =>
  (tq_len p1).bind fun N9 =>
  tq_let (tq_new h (.inr (0, (N9, .inl (fun _ => 0))))) fun h2 =>
  (tq_pf h2 t 5 0 (.ref h.1)).bind fun h3 =>
  (tq_gr h3 t 5 0).bind fun r4 =>
  (f_J7_fill_53178 r4 a2 h3).bind fun v5 =>
  some v5
set_option maxHeartbeats 4000000 in
set_option maxRecDepth 20000 in
theorem w_X5_init {l : Launch} {d : Nat} (hd9 : 1 ≤ d) {t : Nat} {a1 : Int32} {a2 : Int32} {N : Nat} (hN1 : a1.toNatClampNeg = N) (hN2 : ¬ a1 < 0) (hN3 : N ≤ 10000) {h : tq_H} {o : tq_H} {Q : tq_R → tq_H → Prop} (hf : f_X5_init t a1 a2 h = some o) (hQ : ∀ r h9, r = .inl none ∧ o = h9 → Q r h9) : tq_C l yX5_init cX5_init 3 none d 1 N [.ref t, .int a1, .int a2] h Q := by
  refine tq_body (y := yX5_init) true (by decide +kernel) (fun _ => rfl) (Nat.le_of_ble_eq_true rfl) ?_
  show tq_W l mX5_init d 1 N Q 0 [(0, .ref t), (1, .int a1), (2, .int a2)] [] h
  refine tq_aload_n (M := mX5_init) (pc := 0) dX5_init_0 rfl ?_
  refine tq_objinit (M := mX5_init) (pc := 1) dX5_init_1 tk_RX5_3 tk_oi tk_oc (by omega) (Nat.le_of_ble_eq_true rfl) ?_
  refine tq_aload_n (M := mX5_init) (pc := 4) dX5_init_4 rfl ?_
  refine tq_iload_n (M := mX5_init) (pc := 5) dX5_init_5 rfl ?_
  obtain ⟨p1, ep1, hf⟩ := tq_le hf
  have HJ6 : tq_W l mX5_init d 1 N Q 14 [(0, .ref t), (2, .int a2)] [.int p1, .ref t] h := by
    obtain ⟨N9, eN, hf⟩ := tq_be hf
    obtain ⟨h2, eh2, hf⟩ := tq_le hf
    have e9 : N9 = N := by rw [← (tq_len_s eN).1, ep1, if_pos (Int32.not_lt.mp hN2), hN1]
    refine tq_newi (M := mX5_init) (pc := 14) dX5_init_14 tk_ac_int (N := N9) (tq_len_s eN).2.1 (tq_len_s eN).1 (by omega) (bc' := 0) (bs' := 0) rfl (by omega) ?_
    rw [← eh2]
    obtain ⟨h3, eh3, hf⟩ := tq_be hf
    refine tq_putv (M := mX5_init) (pc := 16) tk_c5 (by decide) dX5_init_16 tk_RX5_9 rfl (Or.inr ⟨rfl, rfl⟩) eh3 (tq_nA _ _) ?_
    refine tq_aload_n (M := mX5_init) (pc := 19) dX5_init_19 rfl ?_
    obtain ⟨r4, er4, hf⟩ := tq_be hf
    refine tq_getR (M := mX5_init) (pc := 20) tk_c5 (by decide) dX5_init_20 tk_RX5_9 rfl er4 ?_
    refine tq_iload_n (M := mX5_init) (pc := 23) dX5_init_23 rfl ?_
    obtain ⟨v5, ev5, hf⟩ := tq_be hf
    refine tq_calS (M := mX5_init) (pc := 24) (S := []) tk_y_J7_fill_53178 tk_s_J7_fill_53178 tk_RX5_15 dX5_init_24 [.ref r4, .int a2] rfl (Nat.le_of_ble_eq_true rfl) (d1 := d - 1) (b1 := 0) (s1 := 0) (bc' := 0) (bs' := 0) (Q1 := fun r h9 => r = .inl none ∧ v5 = h9) (by omega) rfl rfl (w_J7_fill_53178 (by omega) ev5 (fun _ _ q => q)) (fun E h9 q => nomatch (show (Sum.inr E : tq_R) = Sum.inl _ from q.1)) (fun r9 h9 q => ?_)
    obtain ⟨q1, rfl⟩ := q
    cases (show (Sum.inl r9 : tq_R) = Sum.inl (none) from q1)
    refine tq_vret (M := mX5_init) (pc := 27) dX5_init_27 rfl ?_
    cases (Option.some.inj hf)
    exact hQ _ _ ⟨rfl, rfl⟩
  refine tq_if_ge (M := mX5_init) (pc := 6) (tgt := 13) dX5_init_6 (by decide) (fun cc => ?_) (fun cc => ?_)
  · have hf := tq_ifp ep1.symm cc
    refine tq_iload_n (M := mX5_init) (pc := 13) dX5_init_13 rfl ?_
    refine tq_pick (L2 := [(0, .ref t), (2, .int a2)]) [0, 2] rfl ?_
    cases hf
    exact HJ6
  · have hf := tq_ifn ep1.symm cc
    refine tq_iconst (M := mX5_init) (pc := 9) dX5_init_9 tk_ki_0 ?_
    refine tq_goto (M := mX5_init) (pc := 10) (tgt := 14) dX5_init_10 (by decide) ?_
    refine tq_pick (L2 := [(0, .ref t), (2, .int a2)]) [0, 2] rfl ?_
    cases hf
    exact HJ6
abbrev mX5_get : tq_M := (RX5, cX5_get, 2, (some .int), false, [])
def f_X5_get (t : Nat) (a1 : Int32) (h : tq_H) : Option (Int32) :=
  (if a1 < 0 then
    some (-1 : Int32)
  else
    (tq_gr h t 5 0).bind fun r1 =>
    (tq_an h r1).bind fun x2 =>
    if a1 ≥ x2 then
      some (-1 : Int32)
    else
      (tq_gr h t 5 0).bind fun r3 =>
      (tq_ai h r3 a1).bind fun x4 =>
      some x4).bind fun p5 =>
  some p5
set_option maxHeartbeats 4000000 in
set_option maxRecDepth 20000 in
theorem w_X5_get {l : Launch} {d : Nat} (hd9 : 0 ≤ d) {t : Nat} {a1 : Int32} {h : tq_H} {o : Int32} {Q : tq_R → tq_H → Prop} (hf : f_X5_get t a1 h = some o) (hQ : ∀ r h9, r = .inl (some (.int o)) ∧ h = h9 → Q r h9) : tq_C l yX5_get cX5_get 2 (some .int) d 0 0 [.ref t, .int a1] h Q := by
  refine tq_body (y := yX5_get) false (by decide +kernel) (fun z => by cases z) (Nat.le_of_ble_eq_true rfl) ?_
  show tq_W l mX5_get d 0 0 Q 0 [(0, .ref t), (1, .int a1)] [] h
  refine tq_iload_n (M := mX5_get) (pc := 0) dX5_get_0 rfl ?_
  obtain ⟨p5, ep5, hf⟩ := tq_be hf
  have HJ1 : tq_W l mX5_get d 0 0 Q 23 [] [.int p5] h := by
    refine tq_iret (M := mX5_get) (pc := 23) dX5_get_23 rfl ?_
    cases (Option.some.inj hf)
    exact hQ _ _ ⟨rfl, rfl⟩
  refine tq_if_lt (M := mX5_get) (pc := 1) (tgt := 22) dX5_get_1 (by decide) (fun cc => ?_) (fun cc => ?_)
  · have hf := tq_ifp ep5 cc
    refine tq_iconst (M := mX5_get) (pc := 22) dX5_get_22 tk_ki_m1 ?_
    refine tq_pick (L2 := []) [] rfl ?_
    cases (Option.some.inj hf)
    exact HJ1
  · have hf := tq_ifn ep5 cc
    refine tq_iload_n (M := mX5_get) (pc := 4) dX5_get_4 rfl ?_
    refine tq_aload_n (M := mX5_get) (pc := 5) dX5_get_5 rfl ?_
    obtain ⟨r1, er1, hf⟩ := tq_be hf
    refine tq_getR (M := mX5_get) (pc := 6) tk_c5 (by decide) dX5_get_6 tk_RX5_9 rfl er1 ?_
    obtain ⟨x2, ex2, hf⟩ := tq_be hf
    refine tq_alenF (M := mX5_get) (pc := 9) dX5_get_9 ex2 ?_
    refine tq_icmp_ge (M := mX5_get) (pc := 10) (tgt := 22) dX5_get_10 (by decide) (fun cc => ?_) (fun cc => ?_)
    · have hf := tq_ifp hf cc
      refine tq_iconst (M := mX5_get) (pc := 22) dX5_get_22 tk_ki_m1 ?_
      refine tq_pick (L2 := []) [] rfl ?_
      cases (Option.some.inj hf)
      exact HJ1
    · have hf := tq_ifn hf cc
      refine tq_aload_n (M := mX5_get) (pc := 13) dX5_get_13 rfl ?_
      obtain ⟨r3, er3, hf⟩ := tq_be hf
      refine tq_getR (M := mX5_get) (pc := 14) tk_c5 (by decide) dX5_get_14 tk_RX5_9 rfl er3 ?_
      refine tq_iload_n (M := mX5_get) (pc := 17) dX5_get_17 rfl ?_
      obtain ⟨x4, ex4, hf⟩ := tq_be hf
      refine tq_ialdF (M := mX5_get) (pc := 18) dX5_get_18 ex4 ?_
      refine tq_goto (M := mX5_get) (pc := 19) (tgt := 23) dX5_get_19 (by decide) ?_
      refine tq_pick (L2 := []) [] rfl ?_
      cases (Option.some.inj hf)
      exact HJ1
abbrev mX5_set : tq_M := (RX5, cX5_set, 3, none, false, [])
def f_X5_set (t : Nat) (a1 : Int32) (a2 : Int32) (h : tq_H) : Option (tq_H) :=
  (if a1 < 0 then
    some h
  else
    (tq_gr h t 5 0).bind fun r1 =>
    (tq_an h r1).bind fun x2 =>
    if a1 ≥ x2 then
      some h
    else
      (tq_gr h t 5 0).bind fun r3 =>
      (tq_si h r3 a1 a2).bind fun h4 =>
      some h4).bind fun p5 =>
  some p5
set_option maxHeartbeats 4000000 in
set_option maxRecDepth 20000 in
theorem w_X5_set {l : Launch} {d : Nat} (hd9 : 0 ≤ d) {t : Nat} {a1 : Int32} {a2 : Int32} {h : tq_H} {o : tq_H} {Q : tq_R → tq_H → Prop} (hf : f_X5_set t a1 a2 h = some o) (hQ : ∀ r h9, r = .inl none ∧ o = h9 → Q r h9) : tq_C l yX5_set cX5_set 3 none d 0 0 [.ref t, .int a1, .int a2] h Q := by
  refine tq_body (y := yX5_set) false (by decide +kernel) (fun z => by cases z) (Nat.le_of_ble_eq_true rfl) ?_
  show tq_W l mX5_set d 0 0 Q 0 [(0, .ref t), (1, .int a1), (2, .int a2)] [] h
  refine tq_iload_n (M := mX5_set) (pc := 0) dX5_set_0 rfl ?_
  obtain ⟨p5, ep5, hf⟩ := tq_be hf
  have HJ1 : tq_W l mX5_set d 0 0 Q 20 [] [] p5 := by
    refine tq_vret (M := mX5_set) (pc := 20) dX5_set_20 rfl ?_
    cases (Option.some.inj hf)
    exact hQ _ _ ⟨rfl, rfl⟩
  refine tq_if_lt (M := mX5_set) (pc := 1) (tgt := 20) dX5_set_1 (by decide) (fun cc => ?_) (fun cc => ?_)
  · have hf := tq_ifp ep5 cc
    refine tq_pick (L2 := []) [] rfl ?_
    cases (Option.some.inj hf)
    exact HJ1
  · have hf := tq_ifn ep5 cc
    refine tq_iload_n (M := mX5_set) (pc := 4) dX5_set_4 rfl ?_
    refine tq_aload_n (M := mX5_set) (pc := 5) dX5_set_5 rfl ?_
    obtain ⟨r1, er1, hf⟩ := tq_be hf
    refine tq_getR (M := mX5_set) (pc := 6) tk_c5 (by decide) dX5_set_6 tk_RX5_9 rfl er1 ?_
    obtain ⟨x2, ex2, hf⟩ := tq_be hf
    refine tq_alenF (M := mX5_set) (pc := 9) dX5_set_9 ex2 ?_
    refine tq_icmp_ge (M := mX5_set) (pc := 10) (tgt := 20) dX5_set_10 (by decide) (fun cc => ?_) (fun cc => ?_)
    · have hf := tq_ifp hf cc
      refine tq_pick (L2 := []) [] rfl ?_
      cases (Option.some.inj hf)
      exact HJ1
    · have hf := tq_ifn hf cc
      refine tq_aload_n (M := mX5_set) (pc := 13) dX5_set_13 rfl ?_
      obtain ⟨r3, er3, hf⟩ := tq_be hf
      refine tq_getR (M := mX5_set) (pc := 14) tk_c5 (by decide) dX5_set_14 tk_RX5_9 rfl er3 ?_
      refine tq_iload_n (M := mX5_set) (pc := 17) dX5_set_17 rfl ?_
      refine tq_iload_n (M := mX5_set) (pc := 18) dX5_set_18 rfl ?_
      obtain ⟨h4, eh4, hf⟩ := tq_be hf
      refine tq_iastF (M := mX5_set) (pc := 19) dX5_set_19 eh4 ?_
      refine tq_pick (L2 := []) [] rfl ?_
      cases (Option.some.inj hf)
      exact HJ1
abbrev mX7_get : tq_M := (RX7, cX7_get, 2, (some .long), false, [])
def f_X7_get (t : Nat) (a1 : Int32) (h : tq_H) : Option (Int64) :=
  (if a1 < 0 then
    some (0 : Int64)
  else
    (tq_gr h t 7 0).bind fun r1 =>
    (tq_an h r1).bind fun x2 =>
    if a1 ≥ x2 then
      some (0 : Int64)
    else
      (tq_gr h t 7 0).bind fun r3 =>
      (tq_aj h r3 a1).bind fun x4 =>
      some x4).bind fun p5 =>
  some p5
set_option maxHeartbeats 4000000 in
set_option maxRecDepth 20000 in
theorem w_X7_get {l : Launch} {d : Nat} (hd9 : 0 ≤ d) {t : Nat} {a1 : Int32} {h : tq_H} {o : Int64} {Q : tq_R → tq_H → Prop} (hf : f_X7_get t a1 h = some o) (hQ : ∀ r h9, r = .inl (some (.long o)) ∧ h = h9 → Q r h9) : tq_C l yX7_get cX7_get 2 (some .long) d 0 0 [.ref t, .int a1] h Q := by
  refine tq_body (y := yX7_get) false (by decide +kernel) (fun z => by cases z) (Nat.le_of_ble_eq_true rfl) ?_
  show tq_W l mX7_get d 0 0 Q 0 [(0, .ref t), (1, .int a1)] [] h
  refine tq_iload_n (M := mX7_get) (pc := 0) dX7_get_0 rfl ?_
  obtain ⟨p5, ep5, hf⟩ := tq_be hf
  have HJ1 : tq_W l mX7_get d 0 0 Q 23 [] [.long p5] h := by
    refine tq_lret (M := mX7_get) (pc := 23) dX7_get_23 rfl ?_
    cases (Option.some.inj hf)
    exact hQ _ _ ⟨rfl, rfl⟩
  refine tq_if_lt (M := mX7_get) (pc := 1) (tgt := 22) dX7_get_1 (by decide) (fun cc => ?_) (fun cc => ?_)
  · have hf := tq_ifp ep5 cc
    refine tq_lconst (M := mX7_get) (pc := 22) dX7_get_22 tk_kl_0 ?_
    refine tq_pick (L2 := []) [] rfl ?_
    cases (Option.some.inj hf)
    exact HJ1
  · have hf := tq_ifn ep5 cc
    refine tq_iload_n (M := mX7_get) (pc := 4) dX7_get_4 rfl ?_
    refine tq_aload_n (M := mX7_get) (pc := 5) dX7_get_5 rfl ?_
    obtain ⟨r1, er1, hf⟩ := tq_be hf
    refine tq_getR (M := mX7_get) (pc := 6) tk_c7 (by decide) dX7_get_6 tk_RX7_7 rfl er1 ?_
    obtain ⟨x2, ex2, hf⟩ := tq_be hf
    refine tq_alenF (M := mX7_get) (pc := 9) dX7_get_9 ex2 ?_
    refine tq_icmp_ge (M := mX7_get) (pc := 10) (tgt := 22) dX7_get_10 (by decide) (fun cc => ?_) (fun cc => ?_)
    · have hf := tq_ifp hf cc
      refine tq_lconst (M := mX7_get) (pc := 22) dX7_get_22 tk_kl_0 ?_
      refine tq_pick (L2 := []) [] rfl ?_
      cases (Option.some.inj hf)
      exact HJ1
    · have hf := tq_ifn hf cc
      refine tq_aload_n (M := mX7_get) (pc := 13) dX7_get_13 rfl ?_
      obtain ⟨r3, er3, hf⟩ := tq_be hf
      refine tq_getR (M := mX7_get) (pc := 14) tk_c7 (by decide) dX7_get_14 tk_RX7_7 rfl er3 ?_
      refine tq_iload_n (M := mX7_get) (pc := 17) dX7_get_17 rfl ?_
      obtain ⟨x4, ex4, hf⟩ := tq_be hf
      refine tq_laldF (M := mX7_get) (pc := 18) dX7_get_18 ex4 ?_
      refine tq_goto (M := mX7_get) (pc := 19) (tgt := 23) dX7_get_19 (by decide) ?_
      refine tq_pick (L2 := []) [] rfl ?_
      cases (Option.some.inj hf)
      exact HJ1
abbrev mX7_init : tq_M := (RX7, cX7_init, 2, none, true, [])
def f_X7_init (t : Nat) (a1 : Int32) (h : tq_H) : Option (tq_H) :=
  tq_let (if a1 ≥ 0 then a1 else (0 : Int32)) fun p1 =>
  (tq_len p1).bind fun N9 =>
  tq_let (tq_new h (.inr (2, (N9, .inr (.inl (fun _ => 0)))))) fun h2 =>
  (tq_pf h2 t 7 0 (.ref h.1)).bind fun h3 =>
  some h3
set_option maxHeartbeats 4000000 in
set_option maxRecDepth 20000 in
theorem w_X7_init {l : Launch} {d : Nat} (hd9 : 1 ≤ d) {t : Nat} {a1 : Int32} {N : Nat} (hN1 : a1.toNatClampNeg = N) (hN2 : ¬ a1 < 0) (hN3 : N ≤ 10000) {h : tq_H} {o : tq_H} {Q : tq_R → tq_H → Prop} (hf : f_X7_init t a1 h = some o) (hQ : ∀ r h9, r = .inl none ∧ o = h9 → Q r h9) : tq_C l yX7_init cX7_init 2 none d 1 N [.ref t, .int a1] h Q := by
  refine tq_body (y := yX7_init) true (by decide +kernel) (fun _ => rfl) (Nat.le_of_ble_eq_true rfl) ?_
  show tq_W l mX7_init d 1 N Q 0 [(0, .ref t), (1, .int a1)] [] h
  refine tq_aload_n (M := mX7_init) (pc := 0) dX7_init_0 rfl ?_
  refine tq_objinit (M := mX7_init) (pc := 1) dX7_init_1 tk_RX7_1 tk_oi tk_oc (by omega) (Nat.le_of_ble_eq_true rfl) ?_
  refine tq_aload_n (M := mX7_init) (pc := 4) dX7_init_4 rfl ?_
  refine tq_iload_n (M := mX7_init) (pc := 5) dX7_init_5 rfl ?_
  obtain ⟨p1, ep1, hf⟩ := tq_le hf
  have HJ6 : tq_W l mX7_init d 1 N Q 14 [] [.int p1, .ref t] h := by
    obtain ⟨N9, eN, hf⟩ := tq_be hf
    obtain ⟨h2, eh2, hf⟩ := tq_le hf
    have e9 : N9 = N := by rw [← (tq_len_s eN).1, ep1, if_pos (Int32.not_lt.mp hN2), hN1]
    refine tq_newl (M := mX7_init) (pc := 14) dX7_init_14 tk_ac_long (N := N9) (tq_len_s eN).2.1 (tq_len_s eN).1 (by omega) (bc' := 0) (bs' := 0) rfl (by omega) ?_
    rw [← eh2]
    obtain ⟨h3, eh3, hf⟩ := tq_be hf
    refine tq_putv (M := mX7_init) (pc := 16) tk_c7 (by decide) dX7_init_16 tk_RX7_7 rfl (Or.inr ⟨rfl, rfl⟩) eh3 (tq_nA _ _) ?_
    refine tq_vret (M := mX7_init) (pc := 19) dX7_init_19 rfl ?_
    cases (Option.some.inj hf)
    exact hQ _ _ ⟨rfl, rfl⟩
  refine tq_if_ge (M := mX7_init) (pc := 6) (tgt := 13) dX7_init_6 (by decide) (fun cc => ?_) (fun cc => ?_)
  · have hf := tq_ifp ep1.symm cc
    refine tq_iload_n (M := mX7_init) (pc := 13) dX7_init_13 rfl ?_
    refine tq_pick (L2 := []) [] rfl ?_
    cases hf
    exact HJ6
  · have hf := tq_ifn ep1.symm cc
    refine tq_iconst (M := mX7_init) (pc := 9) dX7_init_9 tk_ki_0 ?_
    refine tq_goto (M := mX7_init) (pc := 10) (tgt := 14) dX7_init_10 (by decide) ?_
    refine tq_pick (L2 := []) [] rfl ?_
    cases hf
    exact HJ6
abbrev mX7_set : tq_M := (RX7, cX7_set, 4, none, false, [])
def f_X7_set (t : Nat) (a1 : Int32) (a2 : Int64) (h : tq_H) : Option (tq_H) :=
  (if a1 < 0 then
    some h
  else
    (tq_gr h t 7 0).bind fun r1 =>
    (tq_an h r1).bind fun x2 =>
    if a1 ≥ x2 then
      some h
    else
      (tq_gr h t 7 0).bind fun r3 =>
      (tq_sl h r3 a1 a2).bind fun h4 =>
      some h4).bind fun p5 =>
  some p5
set_option maxHeartbeats 4000000 in
set_option maxRecDepth 20000 in
theorem w_X7_set {l : Launch} {d : Nat} (hd9 : 0 ≤ d) {t : Nat} {a1 : Int32} {a2 : Int64} {h : tq_H} {o : tq_H} {Q : tq_R → tq_H → Prop} (hf : f_X7_set t a1 a2 h = some o) (hQ : ∀ r h9, r = .inl none ∧ o = h9 → Q r h9) : tq_C l yX7_set cX7_set 4 none d 0 0 [.ref t, .int a1, .long a2] h Q := by
  refine tq_body (y := yX7_set) false (by decide +kernel) (fun z => by cases z) (Nat.le_of_ble_eq_true rfl) ?_
  show tq_W l mX7_set d 0 0 Q 0 [(0, .ref t), (1, .int a1), (2, .long a2)] [] h
  refine tq_iload_n (M := mX7_set) (pc := 0) dX7_set_0 rfl ?_
  obtain ⟨p5, ep5, hf⟩ := tq_be hf
  have HJ1 : tq_W l mX7_set d 0 0 Q 20 [] [] p5 := by
    refine tq_vret (M := mX7_set) (pc := 20) dX7_set_20 rfl ?_
    cases (Option.some.inj hf)
    exact hQ _ _ ⟨rfl, rfl⟩
  refine tq_if_lt (M := mX7_set) (pc := 1) (tgt := 20) dX7_set_1 (by decide) (fun cc => ?_) (fun cc => ?_)
  · have hf := tq_ifp ep5 cc
    refine tq_pick (L2 := []) [] rfl ?_
    cases (Option.some.inj hf)
    exact HJ1
  · have hf := tq_ifn ep5 cc
    refine tq_iload_n (M := mX7_set) (pc := 4) dX7_set_4 rfl ?_
    refine tq_aload_n (M := mX7_set) (pc := 5) dX7_set_5 rfl ?_
    obtain ⟨r1, er1, hf⟩ := tq_be hf
    refine tq_getR (M := mX7_set) (pc := 6) tk_c7 (by decide) dX7_set_6 tk_RX7_7 rfl er1 ?_
    obtain ⟨x2, ex2, hf⟩ := tq_be hf
    refine tq_alenF (M := mX7_set) (pc := 9) dX7_set_9 ex2 ?_
    refine tq_icmp_ge (M := mX7_set) (pc := 10) (tgt := 20) dX7_set_10 (by decide) (fun cc => ?_) (fun cc => ?_)
    · have hf := tq_ifp hf cc
      refine tq_pick (L2 := []) [] rfl ?_
      cases (Option.some.inj hf)
      exact HJ1
    · have hf := tq_ifn hf cc
      refine tq_aload_n (M := mX7_set) (pc := 13) dX7_set_13 rfl ?_
      obtain ⟨r3, er3, hf⟩ := tq_be hf
      refine tq_getR (M := mX7_set) (pc := 14) tk_c7 (by decide) dX7_set_14 tk_RX7_7 rfl er3 ?_
      refine tq_iload_n (M := mX7_set) (pc := 17) dX7_set_17 rfl ?_
      refine tq_lload_n (M := mX7_set) (pc := 18) dX7_set_18 rfl ?_
      obtain ⟨h4, eh4, hf⟩ := tq_be hf
      refine tq_lastF (M := mX7_set) (pc := 19) dX7_set_19 eh4 ?_
      refine tq_pick (L2 := []) [] rfl ?_
      cases (Option.some.inj hf)
      exact HJ1
abbrev mX7_union : tq_M := (RX7, cX7_union, 10, (some .long), false, [])
def f_X7_union_b12 (i0 : Nat) (i1 : Int32) (hh : tq_H) (s : Int64 × Int64 × Int32) : Option ((Int64 × Int64 × Int32) ⊕ (Int64)) := match s with
  | (y4, y6, y8) =>
    if y8 ≤ 0 then
      some (.inr y4)
    else
      (f_X0_lowest y6 hh).bind fun v2 =>
      tq_let ((i1 + v2)) fun x3 =>
      (if x3 < 0 then
        some (0 : Int64)
      else
        (tq_gr hh i0 7 0).bind fun r4 =>
        (tq_an hh r4).bind fun x5 =>
        if x3 ≥ x5 then
          some (0 : Int64)
        else
          (tq_gr hh i0 7 0).bind fun r6 =>
          (tq_aj hh r6 x3).bind fun x7 =>
          some x7).bind fun p8 =>
      tq_let ((y4 ||| p8)) fun x9 =>
      tq_let ((y6 &&& (y6 - (1 : Int64)))) fun x10 =>
      tq_let (y8 + (-1 : Int32)) fun x11 =>
      some (.inl (x9, x10, x11))
def f_X7_union (t : Nat) (a1 : Int32) (a2 : Int64) (h : tq_H) : Option (Int64) :=
  (f_J13_bitCount_95d88 a2 h).bind fun v1 =>
  (tq_loop (f_X7_union_b12 t a1 h) tq_N ((0 : Int64), a2, v1)).bind fun o12 =>
  some o12
set_option maxHeartbeats 4000000 in
theorem l_X7_union_12 {l : Launch} {d : Nat} {Q : tq_R → tq_H → Prop} (hd9 : 2 ≤ d) (i0 : Nat) (i1 : Int32) (hh : tq_H) : ∀ (n : Nat) (y4 : Int64) (y6 : Int64) (y8 : Int32) (o : Int64), tq_loop (f_X7_union_b12 i0 i1 hh) n (y4, y6, y8) = some o → tq_W l mX7_union d 0 0 Q 72 [(4, .long o)] [] hh → tq_W l mX7_union d 0 0 Q 12 [(0, .ref i0), (1, .int i1), (4, .long y4), (6, .long y6), (8, .int y8)] [] hh := by
  intro n
  induction n with
  | zero => intro y4 y6 y8 o hl; cases hl
  | succ n ih =>
    intro y4 y6 y8 o hl hk
    obtain ⟨oo, hf, ho⟩ := tq_loop_s hl
    refine tq_iload (M := mX7_union) (pc := 12) dX7_union_12 rfl ?_
    refine tq_if_le (M := mX7_union) (pc := 14) (tgt := 72) dX7_union_14 (by decide) (fun cc => ?_) (fun cc => ?_)
    · have hf := tq_ifp hf cc
      refine tq_pick (L2 := [(4, .long y4)]) [2] rfl ?_
      cases (Option.some.inj hf)
      cases (tq_lx ho)
      exact hk
    · have hf := tq_ifn hf cc
      refine tq_iload_n (M := mX7_union) (pc := 17) dX7_union_17 rfl ?_
      refine tq_lload (M := mX7_union) (pc := 18) dX7_union_18 rfl ?_
      obtain ⟨v2, ev2, hf⟩ := tq_be hf
      refine tq_calS (M := mX7_union) (pc := 20) (S := [.int i1]) tk_y_X0_lowest tk_s_X0_lowest tk_RX7_31 dX7_union_20 [.long y6] rfl (Nat.le_of_ble_eq_true rfl) (d1 := d - 1) (b1 := 0) (s1 := 0) (bc' := 0) (bs' := 0) (Q1 := fun r h9 => r = .inl (some (.int v2)) ∧ hh = h9) (by omega) rfl rfl (w_X0_lowest (by omega) ev2 (fun _ _ q => q)) (fun E h9 q => nomatch (show (Sum.inr E : tq_R) = Sum.inl _ from q.1)) (fun r9 h9 q => ?_)
      obtain ⟨q1, rfl⟩ := q
      cases (show (Sum.inl r9 : tq_R) = Sum.inl (some (.int v2)) from q1)
      refine tq_iadd (M := mX7_union) (pc := 23) dX7_union_23 ?_
      obtain ⟨x3, ex3, hf⟩ := tq_le hf
      refine tq_istore (M := mX7_union) (pc := 24) dX7_union_24 (L2 := [(9, .int x3), (0, .ref i0), (1, .int i1), (4, .long y4), (6, .long y6), (8, .int y8)]) (by decide) (by rw [ex3]; rfl) ?_
      refine tq_lload (M := mX7_union) (pc := 26) dX7_union_26 rfl ?_
      refine tq_iload (M := mX7_union) (pc := 28) dX7_union_28 rfl ?_
      obtain ⟨p8, ep8, hf⟩ := tq_be hf
      have HJ30 : tq_W l mX7_union d 0 0 Q 54 [(0, .ref i0), (1, .int i1), (6, .long y6), (8, .int y8)] [.long p8, .long y4] hh := by
        refine tq_lor (M := mX7_union) (pc := 54) dX7_union_54 ?_
        obtain ⟨x9, ex9, hf⟩ := tq_le hf
        refine tq_lstore (M := mX7_union) (pc := 55) dX7_union_55 (L2 := [(4, .long x9), (0, .ref i0), (1, .int i1), (6, .long y6), (8, .int y8)]) (by decide) (by rw [ex9]; rfl) ?_
        refine tq_lload (M := mX7_union) (pc := 57) dX7_union_57 rfl ?_
        refine tq_lload (M := mX7_union) (pc := 59) dX7_union_59 rfl ?_
        refine tq_lconst (M := mX7_union) (pc := 61) dX7_union_61 tk_kl_1 ?_
        refine tq_lsub (M := mX7_union) (pc := 62) dX7_union_62 ?_
        refine tq_land (M := mX7_union) (pc := 63) dX7_union_63 ?_
        obtain ⟨x10, ex10, hf⟩ := tq_le hf
        refine tq_lstore (M := mX7_union) (pc := 64) dX7_union_64 (L2 := [(6, .long x10), (4, .long x9), (0, .ref i0), (1, .int i1), (8, .int y8)]) (by decide) (by rw [ex10]; rfl) ?_
        obtain ⟨x11, ex11, hf⟩ := tq_le hf
        refine tq_iinc (M := mX7_union) (pc := 66) (v := x11) (L2 := [(8, .int x11), (6, .long x10), (4, .long x9), (0, .ref i0), (1, .int i1)]) dX7_union_66 rfl (by rw [ex11, tk_ki_m1]) (by decide) rfl ?_
        refine tq_goto (M := mX7_union) (pc := 69) (tgt := 12) dX7_union_69 (by decide) ?_
        refine tq_pick (L2 := [(0, .ref i0), (1, .int i1), (4, .long x9), (6, .long x10), (8, .int x11)]) [3, 4, 2, 1, 0] rfl ?_
        cases (Option.some.inj hf)
        exact ih _ _ _ o (tq_lc ho) hk
      refine tq_if_lt (M := mX7_union) (pc := 30) (tgt := 53) dX7_union_30 (by decide) (fun cc => ?_) (fun cc => ?_)
      · have hf := tq_ifp ep8 cc
        refine tq_lconst (M := mX7_union) (pc := 53) dX7_union_53 tk_kl_0 ?_
        refine tq_pick (L2 := [(0, .ref i0), (1, .int i1), (6, .long y6), (8, .int y8)]) [1, 2, 4, 5] rfl ?_
        cases (Option.some.inj hf)
        exact HJ30
      · have hf := tq_ifn ep8 cc
        refine tq_iload (M := mX7_union) (pc := 33) dX7_union_33 rfl ?_
        refine tq_aload_n (M := mX7_union) (pc := 35) dX7_union_35 rfl ?_
        obtain ⟨r4, er4, hf⟩ := tq_be hf
        refine tq_getR (M := mX7_union) (pc := 36) tk_c7 (by decide) dX7_union_36 tk_RX7_7 rfl er4 ?_
        obtain ⟨x5, ex5, hf⟩ := tq_be hf
        refine tq_alenF (M := mX7_union) (pc := 39) dX7_union_39 ex5 ?_
        refine tq_icmp_ge (M := mX7_union) (pc := 40) (tgt := 53) dX7_union_40 (by decide) (fun cc => ?_) (fun cc => ?_)
        · have hf := tq_ifp hf cc
          refine tq_lconst (M := mX7_union) (pc := 53) dX7_union_53 tk_kl_0 ?_
          refine tq_pick (L2 := [(0, .ref i0), (1, .int i1), (6, .long y6), (8, .int y8)]) [1, 2, 4, 5] rfl ?_
          cases (Option.some.inj hf)
          exact HJ30
        · have hf := tq_ifn hf cc
          refine tq_aload_n (M := mX7_union) (pc := 43) dX7_union_43 rfl ?_
          obtain ⟨r6, er6, hf⟩ := tq_be hf
          refine tq_getR (M := mX7_union) (pc := 44) tk_c7 (by decide) dX7_union_44 tk_RX7_7 rfl er6 ?_
          refine tq_iload (M := mX7_union) (pc := 47) dX7_union_47 rfl ?_
          obtain ⟨x7, ex7, hf⟩ := tq_be hf
          refine tq_laldF (M := mX7_union) (pc := 49) dX7_union_49 ex7 ?_
          refine tq_goto (M := mX7_union) (pc := 50) (tgt := 54) dX7_union_50 (by decide) ?_
          refine tq_pick (L2 := [(0, .ref i0), (1, .int i1), (6, .long y6), (8, .int y8)]) [1, 2, 4, 5] rfl ?_
          cases (Option.some.inj hf)
          exact HJ30
set_option maxHeartbeats 4000000 in
set_option maxRecDepth 20000 in
theorem w_X7_union {l : Launch} {d : Nat} (hd9 : 2 ≤ d) {t : Nat} {a1 : Int32} {a2 : Int64} {h : tq_H} {o : Int64} {Q : tq_R → tq_H → Prop} (hf : f_X7_union t a1 a2 h = some o) (hQ : ∀ r h9, r = .inl (some (.long o)) ∧ h = h9 → Q r h9) : tq_C l yX7_union cX7_union 10 (some .long) d 0 0 [.ref t, .int a1, .long a2] h Q := by
  refine tq_body (y := yX7_union) false (by decide +kernel) (fun z => by cases z) (Nat.le_of_ble_eq_true rfl) ?_
  show tq_W l mX7_union d 0 0 Q 0 [(0, .ref t), (1, .int a1), (2, .long a2)] [] h
  refine tq_lconst (M := mX7_union) (pc := 0) dX7_union_0 tk_kl_0 ?_
  refine tq_lstore (M := mX7_union) (pc := 1) dX7_union_1 (L2 := [(4, .long (0 : Int64)), (0, .ref t), (1, .int a1), (2, .long a2)]) (by decide) rfl ?_
  refine tq_lload_n (M := mX7_union) (pc := 3) dX7_union_3 rfl ?_
  refine tq_lstore (M := mX7_union) (pc := 4) dX7_union_4 (L2 := [(6, .long a2), (4, .long (0 : Int64)), (0, .ref t), (1, .int a1), (2, .long a2)]) (by decide) rfl ?_
  refine tq_lload_n (M := mX7_union) (pc := 6) dX7_union_6 rfl ?_
  obtain ⟨v1, ev1, hf⟩ := tq_be hf
  refine tq_calS (M := mX7_union) (pc := 7) (S := []) tk_y_J13_bitCount_95d88 tk_s_J13_bitCount_95d88 tk_RX7_25 dX7_union_7 [.long a2] rfl (Nat.le_of_ble_eq_true rfl) (d1 := d - 1) (b1 := 0) (s1 := 0) (bc' := 0) (bs' := 0) (Q1 := fun r h9 => r = .inl (some (.int v1)) ∧ h = h9) (by omega) rfl rfl (w_J13_bitCount_95d88 (by omega) ev1 (fun _ _ q => q)) (fun E h9 q => nomatch (show (Sum.inr E : tq_R) = Sum.inl _ from q.1)) (fun r9 h9 q => ?_)
  obtain ⟨q1, rfl⟩ := q
  cases (show (Sum.inl r9 : tq_R) = Sum.inl (some (.int v1)) from q1)
  refine tq_istore (M := mX7_union) (pc := 10) dX7_union_10 (L2 := [(8, .int v1), (6, .long a2), (4, .long (0 : Int64)), (0, .ref t), (1, .int a1), (2, .long a2)]) (by decide) rfl ?_
  obtain ⟨o12, eo12, hf⟩ := tq_be hf
  refine tq_pick (L2 := [(0, .ref t), (1, .int a1), (4, .long (0 : Int64)), (6, .long a2), (8, .int v1)]) [3, 4, 2, 1, 0] rfl ?_
  refine l_X7_union_12 (by omega) t a1 h _ (0 : Int64) a2 v1 _ eo12 ?_
  refine tq_lload (M := mX7_union) (pc := 72) dX7_union_72 rfl ?_
  refine tq_lret (M := mX7_union) (pc := 74) dX7_union_74 rfl ?_
  cases (Option.some.inj hf)
  exact hQ _ _ ⟨rfl, rfl⟩
abbrev mX5_setAll : tq_M := (RX5, cX5_setAll, 2, none, false, [])
def f_X5_setAll (t : Nat) (a1 : Int32) (h : tq_H) : Option (tq_H) :=
  (tq_gr h t 5 0).bind fun r1 =>
  (f_J7_fill_53178 r1 a1 h).bind fun v2 =>
  some v2
set_option maxHeartbeats 4000000 in
set_option maxRecDepth 20000 in
theorem w_X5_setAll {l : Launch} {d : Nat} (hd9 : 1 ≤ d) {t : Nat} {a1 : Int32} {h : tq_H} {o : tq_H} {Q : tq_R → tq_H → Prop} (hf : f_X5_setAll t a1 h = some o) (hQ : ∀ r h9, r = .inl none ∧ o = h9 → Q r h9) : tq_C l yX5_setAll cX5_setAll 2 none d 0 0 [.ref t, .int a1] h Q := by
  refine tq_body (y := yX5_setAll) false (by decide +kernel) (fun z => by cases z) (Nat.le_of_ble_eq_true rfl) ?_
  show tq_W l mX5_setAll d 0 0 Q 0 [(0, .ref t), (1, .int a1)] [] h
  refine tq_aload_n (M := mX5_setAll) (pc := 0) dX5_setAll_0 rfl ?_
  obtain ⟨r1, er1, hf⟩ := tq_be hf
  refine tq_getR (M := mX5_setAll) (pc := 1) tk_c5 (by decide) dX5_setAll_1 tk_RX5_9 rfl er1 ?_
  refine tq_iload_n (M := mX5_setAll) (pc := 4) dX5_setAll_4 rfl ?_
  obtain ⟨v2, ev2, hf⟩ := tq_be hf
  refine tq_calS (M := mX5_setAll) (pc := 5) (S := []) tk_y_J7_fill_53178 tk_s_J7_fill_53178 tk_RX5_15 dX5_setAll_5 [.ref r1, .int a1] rfl (Nat.le_of_ble_eq_true rfl) (d1 := d - 1) (b1 := 0) (s1 := 0) (bc' := 0) (bs' := 0) (Q1 := fun r h9 => r = .inl none ∧ v2 = h9) (by omega) rfl rfl (w_J7_fill_53178 (by omega) ev2 (fun _ _ q => q)) (fun E h9 q => nomatch (show (Sum.inr E : tq_R) = Sum.inl _ from q.1)) (fun r9 h9 q => ?_)
  obtain ⟨q1, rfl⟩ := q
  cases (show (Sum.inl r9 : tq_R) = Sum.inl (none) from q1)
  refine tq_vret (M := mX5_setAll) (pc := 8) dX5_setAll_8 rfl ?_
  cases (Option.some.inj hf)
  exact hQ _ _ ⟨rfl, rfl⟩
abbrev mJ7_fill_d0a16 : tq_M := (RJ7, cJ7_fill_d0a16, 5, none, false, [])
def f_J7_fill_d0a16_b6 (i0 : Nat) (i1 : Int64) (i4 : Int32) (s : Int32 × tq_H) : Option ((Int32 × tq_H) ⊕ (tq_H)) := match s with
  | (y3, hh) =>
    if y3 ≥ i4 then
      some (.inr hh)
    else
      (tq_sl hh i0 y3 i1).bind fun h2 =>
      tq_let (y3 + (1 : Int32)) fun x3 =>
      some (.inl (x3, h2))
def f_J7_fill_d0a16 (a0 : Nat) (a1 : Int64) (h : tq_H) : Option (tq_H) :=
  (tq_an h a0).bind fun x1 =>
  (tq_loop (f_J7_fill_d0a16_b6 a0 a1 x1) tq_N ((0 : Int32), h)).bind fun o4 =>
  some o4
set_option maxHeartbeats 4000000 in
theorem l_J7_fill_d0a16_6 {l : Launch} {d : Nat} {Q : tq_R → tq_H → Prop} (hd9 : 0 ≤ d) (i0 : Nat) (i1 : Int64) (i4 : Int32) : ∀ (n : Nat) (y3 : Int32) (hh : tq_H) (o : tq_H), tq_loop (f_J7_fill_d0a16_b6 i0 i1 i4) n (y3, hh) = some o → tq_W l mJ7_fill_d0a16 d 0 0 Q 22 [] [] o → tq_W l mJ7_fill_d0a16 d 0 0 Q 6 [(0, .ref i0), (1, .long i1), (3, .int y3), (4, .int i4)] [] hh := by
  intro n
  induction n with
  | zero => intro y3 hh o hl; cases hl
  | succ n ih =>
    intro y3 hh o hl hk
    obtain ⟨oo, hf, ho⟩ := tq_loop_s hl
    refine tq_iload_n (M := mJ7_fill_d0a16) (pc := 6) dJ7_fill_d0a16_6 rfl ?_
    refine tq_iload (M := mJ7_fill_d0a16) (pc := 7) dJ7_fill_d0a16_7 rfl ?_
    refine tq_icmp_ge (M := mJ7_fill_d0a16) (pc := 9) (tgt := 22) dJ7_fill_d0a16_9 (by decide) (fun cc => ?_) (fun cc => ?_)
    · have hf := tq_ifp hf cc
      refine tq_pick (L2 := []) [] rfl ?_
      cases (Option.some.inj hf)
      cases (tq_lx ho)
      exact hk
    · have hf := tq_ifn hf cc
      refine tq_aload_n (M := mJ7_fill_d0a16) (pc := 12) dJ7_fill_d0a16_12 rfl ?_
      refine tq_iload_n (M := mJ7_fill_d0a16) (pc := 13) dJ7_fill_d0a16_13 rfl ?_
      refine tq_lload_n (M := mJ7_fill_d0a16) (pc := 14) dJ7_fill_d0a16_14 rfl ?_
      obtain ⟨h2, eh2, hf⟩ := tq_be hf
      refine tq_lastF (M := mJ7_fill_d0a16) (pc := 15) dJ7_fill_d0a16_15 eh2 ?_
      obtain ⟨x3, ex3, hf⟩ := tq_le hf
      refine tq_iinc (M := mJ7_fill_d0a16) (pc := 16) (v := x3) (L2 := [(3, .int x3), (0, .ref i0), (1, .long i1), (4, .int i4)]) dJ7_fill_d0a16_16 rfl (by rw [ex3, tk_ki_1]) (by decide) rfl ?_
      refine tq_goto (M := mJ7_fill_d0a16) (pc := 19) (tgt := 6) dJ7_fill_d0a16_19 (by decide) ?_
      refine tq_pick (L2 := [(0, .ref i0), (1, .long i1), (3, .int x3), (4, .int i4)]) [1, 2, 0, 3] rfl ?_
      cases (Option.some.inj hf)
      exact ih _ _ o (tq_lc ho) hk
set_option maxHeartbeats 4000000 in
set_option maxRecDepth 20000 in
theorem w_J7_fill_d0a16 {l : Launch} {d : Nat} (hd9 : 0 ≤ d) {a0 : Nat} {a1 : Int64} {h : tq_H} {o : tq_H} {Q : tq_R → tq_H → Prop} (hf : f_J7_fill_d0a16 a0 a1 h = some o) (hQ : ∀ r h9, r = .inl none ∧ o = h9 → Q r h9) : tq_C l yJ7_fill_d0a16 cJ7_fill_d0a16 5 none d 0 0 [.ref a0, .long a1] h Q := by
  refine tq_body (y := yJ7_fill_d0a16) false (by decide +kernel) (fun z => by cases z) (Nat.le_of_ble_eq_true rfl) ?_
  show tq_W l mJ7_fill_d0a16 d 0 0 Q 0 [(0, .ref a0), (1, .long a1)] [] h
  refine tq_iconst (M := mJ7_fill_d0a16) (pc := 0) dJ7_fill_d0a16_0 tk_ki_0 ?_
  refine tq_istore_n (M := mJ7_fill_d0a16) (pc := 1) rfl dJ7_fill_d0a16_1 (L2 := [(3, .int (0 : Int32)), (0, .ref a0), (1, .long a1)]) (by decide) rfl ?_
  refine tq_aload_n (M := mJ7_fill_d0a16) (pc := 2) dJ7_fill_d0a16_2 rfl ?_
  obtain ⟨x1, ex1, hf⟩ := tq_be hf
  refine tq_alenF (M := mJ7_fill_d0a16) (pc := 3) dJ7_fill_d0a16_3 ex1 ?_
  refine tq_istore (M := mJ7_fill_d0a16) (pc := 4) dJ7_fill_d0a16_4 (L2 := [(4, .int x1), (3, .int (0 : Int32)), (0, .ref a0), (1, .long a1)]) (by decide) rfl ?_
  obtain ⟨o4, eo4, hf⟩ := tq_be hf
  refine tq_pick (L2 := [(0, .ref a0), (1, .long a1), (3, .int (0 : Int32)), (4, .int x1)]) [2, 3, 1, 0] rfl ?_
  refine l_J7_fill_d0a16_6 (by omega) a0 a1 x1 _ (0 : Int32) h _ eo4 ?_
  refine tq_vret (M := mJ7_fill_d0a16) (pc := 22) dJ7_fill_d0a16_22 rfl ?_
  cases (Option.some.inj hf)
  exact hQ _ _ ⟨rfl, rfl⟩
abbrev mX7_emptyAll : tq_M := (RX7, cX7_emptyAll, 1, none, false, [])
def f_X7_emptyAll (t : Nat) (h : tq_H) : Option (tq_H) :=
  (tq_gr h t 7 0).bind fun r1 =>
  (f_J7_fill_d0a16 r1 (0 : Int64) h).bind fun v2 =>
  some v2
set_option maxHeartbeats 4000000 in
set_option maxRecDepth 20000 in
theorem w_X7_emptyAll {l : Launch} {d : Nat} (hd9 : 1 ≤ d) {t : Nat} {h : tq_H} {o : tq_H} {Q : tq_R → tq_H → Prop} (hf : f_X7_emptyAll t h = some o) (hQ : ∀ r h9, r = .inl none ∧ o = h9 → Q r h9) : tq_C l yX7_emptyAll cX7_emptyAll 1 none d 0 0 [.ref t] h Q := by
  refine tq_body (y := yX7_emptyAll) false (by decide +kernel) (fun z => by cases z) (Nat.le_of_ble_eq_true rfl) ?_
  show tq_W l mX7_emptyAll d 0 0 Q 0 [(0, .ref t)] [] h
  refine tq_aload_n (M := mX7_emptyAll) (pc := 0) dX7_emptyAll_0 rfl ?_
  obtain ⟨r1, er1, hf⟩ := tq_be hf
  refine tq_getR (M := mX7_emptyAll) (pc := 1) tk_c7 (by decide) dX7_emptyAll_1 tk_RX7_7 rfl er1 ?_
  refine tq_lconst (M := mX7_emptyAll) (pc := 4) dX7_emptyAll_4 tk_kl_0 ?_
  obtain ⟨v2, ev2, hf⟩ := tq_be hf
  refine tq_calS (M := mX7_emptyAll) (pc := 5) (S := []) tk_y_J7_fill_d0a16 tk_s_J7_fill_d0a16 tk_RX7_19 dX7_emptyAll_5 [.ref r1, .long (0 : Int64)] rfl (Nat.le_of_ble_eq_true rfl) (d1 := d - 1) (b1 := 0) (s1 := 0) (bc' := 0) (bs' := 0) (Q1 := fun r h9 => r = .inl none ∧ v2 = h9) (by omega) rfl rfl (w_J7_fill_d0a16 (by omega) ev2 (fun _ _ q => q)) (fun E h9 q => nomatch (show (Sum.inr E : tq_R) = Sum.inl _ from q.1)) (fun r9 h9 q => ?_)
  obtain ⟨q1, rfl⟩ := q
  cases (show (Sum.inl r9 : tq_R) = Sum.inl (none) from q1)
  refine tq_vret (M := mX7_emptyAll) (pc := 8) dX7_emptyAll_8 rfl ?_
  cases (Option.some.inj hf)
  exact hQ _ _ ⟨rfl, rfl⟩
abbrev mX7_add : tq_M := (RX7, cX7_add, 3, none, false, [])
def f_X7_add (t : Nat) (a1 : Int32) (a2 : Int32) (h : tq_H) : Option (tq_H) :=
  (if a1 < 0 then
    some h
  else
    (tq_gr h t 7 0).bind fun r1 =>
    (tq_an h r1).bind fun x2 =>
    if a1 ≥ x2 then
      some h
    else
      (tq_gr h t 7 0).bind fun r3 =>
      (tq_aj h r3 a1).bind fun x4 =>
      (f_X0_one a2 h).bind fun v5 =>
      (tq_sl h r3 a1 (x4 ||| v5)).bind fun h6 =>
      some h6).bind fun p7 =>
  some p7
set_option maxHeartbeats 4000000 in
set_option maxRecDepth 20000 in
theorem w_X7_add {l : Launch} {d : Nat} (hd9 : 1 ≤ d) {t : Nat} {a1 : Int32} {a2 : Int32} {h : tq_H} {o : tq_H} {Q : tq_R → tq_H → Prop} (hf : f_X7_add t a1 a2 h = some o) (hQ : ∀ r h9, r = .inl none ∧ o = h9 → Q r h9) : tq_C l yX7_add cX7_add 3 none d 0 0 [.ref t, .int a1, .int a2] h Q := by
  refine tq_body (y := yX7_add) false (by decide +kernel) (fun z => by cases z) (Nat.le_of_ble_eq_true rfl) ?_
  show tq_W l mX7_add d 0 0 Q 0 [(0, .ref t), (1, .int a1), (2, .int a2)] [] h
  refine tq_iload_n (M := mX7_add) (pc := 0) dX7_add_0 rfl ?_
  obtain ⟨p7, ep7, hf⟩ := tq_be hf
  have HJ1 : tq_W l mX7_add d 0 0 Q 26 [] [] p7 := by
    refine tq_vret (M := mX7_add) (pc := 26) dX7_add_26 rfl ?_
    cases (Option.some.inj hf)
    exact hQ _ _ ⟨rfl, rfl⟩
  refine tq_if_lt (M := mX7_add) (pc := 1) (tgt := 26) dX7_add_1 (by decide) (fun cc => ?_) (fun cc => ?_)
  · have hf := tq_ifp ep7 cc
    refine tq_pick (L2 := []) [] rfl ?_
    cases (Option.some.inj hf)
    exact HJ1
  · have hf := tq_ifn ep7 cc
    refine tq_iload_n (M := mX7_add) (pc := 4) dX7_add_4 rfl ?_
    refine tq_aload_n (M := mX7_add) (pc := 5) dX7_add_5 rfl ?_
    obtain ⟨r1, er1, hf⟩ := tq_be hf
    refine tq_getR (M := mX7_add) (pc := 6) tk_c7 (by decide) dX7_add_6 tk_RX7_7 rfl er1 ?_
    obtain ⟨x2, ex2, hf⟩ := tq_be hf
    refine tq_alenF (M := mX7_add) (pc := 9) dX7_add_9 ex2 ?_
    refine tq_icmp_ge (M := mX7_add) (pc := 10) (tgt := 26) dX7_add_10 (by decide) (fun cc => ?_) (fun cc => ?_)
    · have hf := tq_ifp hf cc
      refine tq_pick (L2 := []) [] rfl ?_
      cases (Option.some.inj hf)
      exact HJ1
    · have hf := tq_ifn hf cc
      refine tq_aload_n (M := mX7_add) (pc := 13) dX7_add_13 rfl ?_
      obtain ⟨r3, er3, hf⟩ := tq_be hf
      refine tq_getR (M := mX7_add) (pc := 14) tk_c7 (by decide) dX7_add_14 tk_RX7_7 rfl er3 ?_
      refine tq_iload_n (M := mX7_add) (pc := 17) dX7_add_17 rfl ?_
      refine tq_dup2 (M := mX7_add) (pc := 18) dX7_add_18 rfl rfl ?_
      obtain ⟨x4, ex4, hf⟩ := tq_be hf
      refine tq_laldF (M := mX7_add) (pc := 19) dX7_add_19 ex4 ?_
      refine tq_iload_n (M := mX7_add) (pc := 20) dX7_add_20 rfl ?_
      obtain ⟨v5, ev5, hf⟩ := tq_be hf
      refine tq_calS (M := mX7_add) (pc := 21) (S := [.long x4, .int a1, .ref r3]) tk_y_X0_one tk_s_X0_one tk_RX7_13 dX7_add_21 [.int a2] rfl (Nat.le_of_ble_eq_true rfl) (d1 := d - 1) (b1 := 0) (s1 := 0) (bc' := 0) (bs' := 0) (Q1 := fun r h9 => r = .inl (some (.long v5)) ∧ h = h9) (by omega) rfl rfl (w_X0_one (by omega) ev5 (fun _ _ q => q)) (fun E h9 q => nomatch (show (Sum.inr E : tq_R) = Sum.inl _ from q.1)) (fun r9 h9 q => ?_)
      obtain ⟨q1, rfl⟩ := q
      cases (show (Sum.inl r9 : tq_R) = Sum.inl (some (.long v5)) from q1)
      refine tq_lor (M := mX7_add) (pc := 24) dX7_add_24 ?_
      obtain ⟨h6, eh6, hf⟩ := tq_be hf
      refine tq_lastF (M := mX7_add) (pc := 25) dX7_add_25 eh6 ?_
      refine tq_pick (L2 := []) [] rfl ?_
      cases (Option.some.inj hf)
      exact HJ1
abbrev mX5_copy : tq_M := (RX5, cX5_copy, 3, none, false, [])
def f_X5_copy (t : Nat) (a1 : Nat) (h : tq_H) : Option (tq_H) :=
  (tq_gr h t 5 0).bind fun r1 =>
  (tq_an h r1).bind fun x2 =>
  (tq_gr h a1 5 0).bind fun r3 =>
  (tq_an h r3).bind fun x4 =>
  tq_let ((if x4 < x2 then x4 else x2)) fun x5 =>
  (tq_gr h a1 5 0).bind fun r6 =>
  (tq_gr h t 5 0).bind fun r7 =>
  (tq_cp h r6 (0 : Int32) r7 (0 : Int32) x5).bind fun h8 =>
  some h8
set_option maxHeartbeats 4000000 in
set_option maxRecDepth 20000 in
theorem w_X5_copy {l : Launch} {d : Nat} (hd9 : 1 ≤ d) {t : Nat} {a1 : Nat} {h : tq_H} {o : tq_H} {Q : tq_R → tq_H → Prop} (hf : f_X5_copy t a1 h = some o) (hQ : ∀ r h9, r = .inl none ∧ o = h9 → Q r h9) : tq_C l yX5_copy cX5_copy 3 none d 0 0 [.ref t, .ref a1] h Q := by
  refine tq_body (y := yX5_copy) false (by decide +kernel) (fun z => by cases z) (Nat.le_of_ble_eq_true rfl) ?_
  show tq_W l mX5_copy d 0 0 Q 0 [(0, .ref t), (1, .ref a1)] [] h
  refine tq_aload_n (M := mX5_copy) (pc := 0) dX5_copy_0 rfl ?_
  obtain ⟨r1, er1, hf⟩ := tq_be hf
  refine tq_getR (M := mX5_copy) (pc := 1) tk_c5 (by decide) dX5_copy_1 tk_RX5_9 rfl er1 ?_
  obtain ⟨x2, ex2, hf⟩ := tq_be hf
  refine tq_alenF (M := mX5_copy) (pc := 4) dX5_copy_4 ex2 ?_
  refine tq_aload_n (M := mX5_copy) (pc := 5) dX5_copy_5 rfl ?_
  obtain ⟨r3, er3, hf⟩ := tq_be hf
  refine tq_getR (M := mX5_copy) (pc := 6) tk_c5 (by decide) dX5_copy_6 tk_RX5_9 rfl er3 ?_
  obtain ⟨x4, ex4, hf⟩ := tq_be hf
  refine tq_alenF (M := mX5_copy) (pc := 9) dX5_copy_9 ex4 ?_
  refine tq_mmin (M := mX5_copy) (pc := 10) 21 dX5_copy_10 tk_RX5_21 tk_min_s tk_math tk_min_c (by omega) (Nat.le_of_ble_eq_true rfl) ?_
  obtain ⟨x5, ex5, hf⟩ := tq_le hf
  refine tq_istore_n (M := mX5_copy) (pc := 13) rfl dX5_copy_13 (L2 := [(2, .int x5), (0, .ref t), (1, .ref a1)]) (by decide) (by rw [ex5]; rfl) ?_
  refine tq_aload_n (M := mX5_copy) (pc := 14) dX5_copy_14 rfl ?_
  obtain ⟨r6, er6, hf⟩ := tq_be hf
  refine tq_getR (M := mX5_copy) (pc := 15) tk_c5 (by decide) dX5_copy_15 tk_RX5_9 rfl er6 ?_
  refine tq_iconst (M := mX5_copy) (pc := 18) dX5_copy_18 tk_ki_0 ?_
  refine tq_aload_n (M := mX5_copy) (pc := 19) dX5_copy_19 rfl ?_
  obtain ⟨r7, er7, hf⟩ := tq_be hf
  refine tq_getR (M := mX5_copy) (pc := 20) tk_c5 (by decide) dX5_copy_20 tk_RX5_9 rfl er7 ?_
  refine tq_iconst (M := mX5_copy) (pc := 23) dX5_copy_23 tk_ki_0 ?_
  refine tq_iload_n (M := mX5_copy) (pc := 24) dX5_copy_24 rfl ?_
  obtain ⟨h8, eh8, hf⟩ := tq_be hf
  refine tq_copyF (M := mX5_copy) (pc := 25) 27 dX5_copy_25 tk_RX5_27 tk_an tk_as tk_ai eh8 (by omega) ?_
  refine tq_vret (M := mX5_copy) (pc := 28) dX5_copy_28 rfl ?_
  cases (Option.some.inj hf)
  exact hQ _ _ ⟨rfl, rfl⟩
abbrev mX5_union : tq_M := (RX5, cX5_union, 6, (some .int), false, [])
def f_X5_union_b5 (i0 : Nat) (i1 : Int32) (i2 : Int32) (hh : tq_H) (s : Int32 × Int32) : Option ((Int32 × Int32) ⊕ (Int32)) := match s with
  | (y3, y4) =>
    if y4 ≥ (8 : Int32) then
      some (.inr y3)
    else
      tq_let ((i1 + y4)) fun x1 =>
      (if ((i2 >>> (y4 &&& 31)) &&& (1 : Int32)) = 0 then
        some y3
      else
        if x1 < 0 then
          some y3
        else
          (tq_gr hh i0 5 0).bind fun r2 =>
          (tq_an hh r2).bind fun x3 =>
          if x1 ≥ x3 then
            some y3
          else
            (tq_gr hh i0 5 0).bind fun r4 =>
            (tq_ai hh r4 x1).bind fun x5 =>
            tq_let ((y3 ||| x5)) fun x6 =>
            some x6).bind fun p7 =>
      tq_let (y4 + (1 : Int32)) fun x8 =>
      some (.inl (p7, x8))
def f_X5_union (t : Nat) (a1 : Int32) (a2 : Int32) (h : tq_H) : Option (Int32) :=
  (tq_loop (f_X5_union_b5 t a1 a2 h) tq_N ((0 : Int32), (0 : Int32))).bind fun o9 =>
  some o9
set_option maxHeartbeats 4000000 in
theorem l_X5_union_5 {l : Launch} {d : Nat} {Q : tq_R → tq_H → Prop} (hd9 : 0 ≤ d) (i0 : Nat) (i1 : Int32) (i2 : Int32) (hh : tq_H) : ∀ (n : Nat) (y3 : Int32) (y4 : Int32) (o : Int32), tq_loop (f_X5_union_b5 i0 i1 i2 hh) n (y3, y4) = some o → tq_W l mX5_union d 0 0 Q 58 [(3, .int o)] [] hh → tq_W l mX5_union d 0 0 Q 5 [(0, .ref i0), (1, .int i1), (2, .int i2), (3, .int y3), (4, .int y4)] [] hh := by
  intro n
  induction n with
  | zero => intro y3 y4 o hl; cases hl
  | succ n ih =>
    intro y3 y4 o hl hk
    obtain ⟨oo, hf, ho⟩ := tq_loop_s hl
    refine tq_iload (M := mX5_union) (pc := 5) dX5_union_5 rfl ?_
    refine tq_bipush (M := mX5_union) (pc := 7) dX5_union_7 tk_kb_8 ?_
    refine tq_icmp_ge (M := mX5_union) (pc := 9) (tgt := 58) dX5_union_9 (by decide) (fun cc => ?_) (fun cc => ?_)
    · have hf := tq_ifp hf cc
      refine tq_pick (L2 := [(3, .int y3)]) [3] rfl ?_
      cases (Option.some.inj hf)
      cases (tq_lx ho)
      exact hk
    · have hf := tq_ifn hf cc
      refine tq_iload_n (M := mX5_union) (pc := 12) dX5_union_12 rfl ?_
      refine tq_iload (M := mX5_union) (pc := 13) dX5_union_13 rfl ?_
      refine tq_iadd (M := mX5_union) (pc := 15) dX5_union_15 ?_
      obtain ⟨x1, ex1, hf⟩ := tq_le hf
      refine tq_istore (M := mX5_union) (pc := 16) dX5_union_16 (L2 := [(5, .int x1), (0, .ref i0), (1, .int i1), (2, .int i2), (3, .int y3), (4, .int y4)]) (by decide) (by rw [ex1]; rfl) ?_
      refine tq_iload_n (M := mX5_union) (pc := 18) dX5_union_18 rfl ?_
      refine tq_iload (M := mX5_union) (pc := 19) dX5_union_19 rfl ?_
      refine tq_ishr (M := mX5_union) (pc := 21) dX5_union_21 ?_
      refine tq_iconst (M := mX5_union) (pc := 22) dX5_union_22 tk_ki_1 ?_
      refine tq_iand (M := mX5_union) (pc := 23) dX5_union_23 ?_
      obtain ⟨p7, ep7, hf⟩ := tq_be hf
      have HJ24 : tq_W l mX5_union d 0 0 Q 52 [(0, .ref i0), (1, .int i1), (2, .int i2), (3, .int p7), (4, .int y4)] [] hh := by
        obtain ⟨x8, ex8, hf⟩ := tq_le hf
        refine tq_iinc (M := mX5_union) (pc := 52) (v := x8) (L2 := [(4, .int x8), (0, .ref i0), (1, .int i1), (2, .int i2), (3, .int p7)]) dX5_union_52 rfl (by rw [ex8, tk_ki_1]) (by decide) rfl ?_
        refine tq_goto (M := mX5_union) (pc := 55) (tgt := 5) dX5_union_55 (by decide) ?_
        refine tq_pick (L2 := [(0, .ref i0), (1, .int i1), (2, .int i2), (3, .int p7), (4, .int x8)]) [1, 2, 3, 4, 0] rfl ?_
        cases (Option.some.inj hf)
        exact ih _ _ o (tq_lc ho) hk
      refine tq_if_eq (M := mX5_union) (pc := 24) (tgt := 52) dX5_union_24 (by decide) (fun cc => ?_) (fun cc => ?_)
      · have hf := tq_ifp ep7 cc
        refine tq_pick (L2 := [(0, .ref i0), (1, .int i1), (2, .int i2), (3, .int y3), (4, .int y4)]) [1, 2, 3, 4, 5] rfl ?_
        cases (Option.some.inj hf)
        exact HJ24
      · have hf := tq_ifn ep7 cc
        refine tq_iload (M := mX5_union) (pc := 27) dX5_union_27 rfl ?_
        refine tq_if_lt (M := mX5_union) (pc := 29) (tgt := 52) dX5_union_29 (by decide) (fun cc => ?_) (fun cc => ?_)
        · have hf := tq_ifp hf cc
          refine tq_pick (L2 := [(0, .ref i0), (1, .int i1), (2, .int i2), (3, .int y3), (4, .int y4)]) [1, 2, 3, 4, 5] rfl ?_
          cases (Option.some.inj hf)
          exact HJ24
        · have hf := tq_ifn hf cc
          refine tq_iload (M := mX5_union) (pc := 32) dX5_union_32 rfl ?_
          refine tq_aload_n (M := mX5_union) (pc := 34) dX5_union_34 rfl ?_
          obtain ⟨r2, er2, hf⟩ := tq_be hf
          refine tq_getR (M := mX5_union) (pc := 35) tk_c5 (by decide) dX5_union_35 tk_RX5_9 rfl er2 ?_
          obtain ⟨x3, ex3, hf⟩ := tq_be hf
          refine tq_alenF (M := mX5_union) (pc := 38) dX5_union_38 ex3 ?_
          refine tq_icmp_ge (M := mX5_union) (pc := 39) (tgt := 52) dX5_union_39 (by decide) (fun cc => ?_) (fun cc => ?_)
          · have hf := tq_ifp hf cc
            refine tq_pick (L2 := [(0, .ref i0), (1, .int i1), (2, .int i2), (3, .int y3), (4, .int y4)]) [1, 2, 3, 4, 5] rfl ?_
            cases (Option.some.inj hf)
            exact HJ24
          · have hf := tq_ifn hf cc
            refine tq_iload_n (M := mX5_union) (pc := 42) dX5_union_42 rfl ?_
            refine tq_aload_n (M := mX5_union) (pc := 43) dX5_union_43 rfl ?_
            obtain ⟨r4, er4, hf⟩ := tq_be hf
            refine tq_getR (M := mX5_union) (pc := 44) tk_c5 (by decide) dX5_union_44 tk_RX5_9 rfl er4 ?_
            refine tq_iload (M := mX5_union) (pc := 47) dX5_union_47 rfl ?_
            obtain ⟨x5, ex5, hf⟩ := tq_be hf
            refine tq_ialdF (M := mX5_union) (pc := 49) dX5_union_49 ex5 ?_
            refine tq_ior (M := mX5_union) (pc := 50) dX5_union_50 ?_
            obtain ⟨x6, ex6, hf⟩ := tq_le hf
            refine tq_istore_n (M := mX5_union) (pc := 51) rfl dX5_union_51 (L2 := [(3, .int x6), (5, .int x1), (0, .ref i0), (1, .int i1), (2, .int i2), (4, .int y4)]) (by decide) (by rw [ex6]; rfl) ?_
            refine tq_pick (L2 := [(0, .ref i0), (1, .int i1), (2, .int i2), (3, .int x6), (4, .int y4)]) [2, 3, 4, 0, 5] rfl ?_
            cases (Option.some.inj hf)
            exact HJ24
set_option maxHeartbeats 4000000 in
set_option maxRecDepth 20000 in
theorem w_X5_union {l : Launch} {d : Nat} (hd9 : 0 ≤ d) {t : Nat} {a1 : Int32} {a2 : Int32} {h : tq_H} {o : Int32} {Q : tq_R → tq_H → Prop} (hf : f_X5_union t a1 a2 h = some o) (hQ : ∀ r h9, r = .inl (some (.int o)) ∧ h = h9 → Q r h9) : tq_C l yX5_union cX5_union 6 (some .int) d 0 0 [.ref t, .int a1, .int a2] h Q := by
  refine tq_body (y := yX5_union) false (by decide +kernel) (fun z => by cases z) (Nat.le_of_ble_eq_true rfl) ?_
  show tq_W l mX5_union d 0 0 Q 0 [(0, .ref t), (1, .int a1), (2, .int a2)] [] h
  refine tq_iconst (M := mX5_union) (pc := 0) dX5_union_0 tk_ki_0 ?_
  refine tq_istore_n (M := mX5_union) (pc := 1) rfl dX5_union_1 (L2 := [(3, .int (0 : Int32)), (0, .ref t), (1, .int a1), (2, .int a2)]) (by decide) rfl ?_
  refine tq_iconst (M := mX5_union) (pc := 2) dX5_union_2 tk_ki_0 ?_
  refine tq_istore (M := mX5_union) (pc := 3) dX5_union_3 (L2 := [(4, .int (0 : Int32)), (3, .int (0 : Int32)), (0, .ref t), (1, .int a1), (2, .int a2)]) (by decide) rfl ?_
  obtain ⟨o9, eo9, hf⟩ := tq_be hf
  refine tq_pick (L2 := [(0, .ref t), (1, .int a1), (2, .int a2), (3, .int (0 : Int32)), (4, .int (0 : Int32))]) [2, 3, 4, 1, 0] rfl ?_
  refine l_X5_union_5 (by omega) t a1 a2 h _ (0 : Int32) (0 : Int32) _ eo9 ?_
  refine tq_iload_n (M := mX5_union) (pc := 58) dX5_union_58 rfl ?_
  refine tq_iret (M := mX5_union) (pc := 59) dX5_union_59 rfl ?_
  cases (Option.some.inj hf)
  exact hQ _ _ ⟨rfl, rfl⟩
abbrev mX5_closure : tq_M := (RX5, cX5_closure, 5, (some .int), false, [])
def f_X5_closure_b10 (i0 : Nat) (i1 : Int32) (hh : tq_H) (s : Int32 × Int32) : Option ((Int32 × Int32) ⊕ (Int32)) := match s with
  | (y3, y4) =>
    if y4 ≥ (8 : Int32) then
      some (.inr y3)
    else
      (tq_is hh i0 5).bind fun _ =>
      (f_X5_union i0 i1 y3 hh).bind fun v3 =>
      tq_let ((y3 ||| v3)) fun x5 =>
      tq_let (y4 + (1 : Int32)) fun x6 =>
      some (.inl (x5, x6))
def f_X5_closure (t : Nat) (a1 : Int32) (a2 : Int32) (h : tq_H) : Option (Int32) :=
  (tq_is h t 5).bind fun _ =>
  (f_X5_union t a1 a2 h).bind fun v1 =>
  (tq_loop (f_X5_closure_b10 t a1 h) tq_N (v1, (0 : Int32))).bind fun o7 =>
  some o7
set_option maxHeartbeats 4000000 in
theorem l_X5_closure_10 {l : Launch} {d : Nat} {Q : tq_R → tq_H → Prop} (hd9 : 1 ≤ d) (i0 : Nat) (i1 : Int32) (hh : tq_H) : ∀ (n : Nat) (y3 : Int32) (y4 : Int32) (o : Int32), tq_loop (f_X5_closure_b10 i0 i1 hh) n (y3, y4) = some o → tq_W l mX5_closure d 0 0 Q 32 [(3, .int o)] [] hh → tq_W l mX5_closure d 0 0 Q 10 [(0, .ref i0), (1, .int i1), (3, .int y3), (4, .int y4)] [] hh := by
  intro n
  induction n with
  | zero => intro y3 y4 o hl; cases hl
  | succ n ih =>
    intro y3 y4 o hl hk
    obtain ⟨oo, hf, ho⟩ := tq_loop_s hl
    refine tq_iload (M := mX5_closure) (pc := 10) dX5_closure_10 rfl ?_
    refine tq_bipush (M := mX5_closure) (pc := 12) dX5_closure_12 tk_kb_8 ?_
    refine tq_icmp_ge (M := mX5_closure) (pc := 14) (tgt := 32) dX5_closure_14 (by decide) (fun cc => ?_) (fun cc => ?_)
    · have hf := tq_ifp hf cc
      refine tq_pick (L2 := [(3, .int y3)]) [2] rfl ?_
      cases (Option.some.inj hf)
      cases (tq_lx ho)
      exact hk
    · have hf := tq_ifn hf cc
      refine tq_iload_n (M := mX5_closure) (pc := 17) dX5_closure_17 rfl ?_
      refine tq_aload_n (M := mX5_closure) (pc := 18) dX5_closure_18 rfl ?_
      refine tq_iload_n (M := mX5_closure) (pc := 19) dX5_closure_19 rfl ?_
      refine tq_iload_n (M := mX5_closure) (pc := 20) dX5_closure_20 rfl ?_
      obtain ⟨⟨⟩, eu4, hf⟩ := tq_be hf
      obtain ⟨fsu4, eu4⟩ := tq_is_s eu4
      obtain ⟨v3, ev3, hf⟩ := tq_be hf
      refine tq_calV (M := mX5_closure) (pc := 21) (S := [.int y3]) tk_y_X5_union tk_v_X5_union tk_RX5_33 dX5_closure_21 [.int i1, .int y3] rfl (S0 := _) rfl eu4 rfl (Nat.le_of_ble_eq_true rfl) (d1 := d - 1) (b1 := 0) (s1 := 0) (bc' := 0) (bs' := 0) (Q1 := fun r h9 => r = .inl (some (.int v3)) ∧ hh = h9) (by omega) rfl rfl (w_X5_union (by omega) ev3 (fun _ _ q => q)) (fun E h9 q => nomatch (show (Sum.inr E : tq_R) = Sum.inl _ from q.1)) (fun r9 h9 q => ?_)
      obtain ⟨q1, rfl⟩ := q
      cases (show (Sum.inl r9 : tq_R) = Sum.inl (some (.int v3)) from q1)
      refine tq_ior (M := mX5_closure) (pc := 24) dX5_closure_24 ?_
      obtain ⟨x5, ex5, hf⟩ := tq_le hf
      refine tq_istore_n (M := mX5_closure) (pc := 25) rfl dX5_closure_25 (L2 := [(3, .int x5), (0, .ref i0), (1, .int i1), (4, .int y4)]) (by decide) (by rw [ex5]; rfl) ?_
      obtain ⟨x6, ex6, hf⟩ := tq_le hf
      refine tq_iinc (M := mX5_closure) (pc := 26) (v := x6) (L2 := [(4, .int x6), (3, .int x5), (0, .ref i0), (1, .int i1)]) dX5_closure_26 rfl (by rw [ex6, tk_ki_1]) (by decide) rfl ?_
      refine tq_goto (M := mX5_closure) (pc := 29) (tgt := 10) dX5_closure_29 (by decide) ?_
      refine tq_pick (L2 := [(0, .ref i0), (1, .int i1), (3, .int x5), (4, .int x6)]) [2, 3, 1, 0] rfl ?_
      cases (Option.some.inj hf)
      exact ih _ _ o (tq_lc ho) hk
set_option maxHeartbeats 4000000 in
set_option maxRecDepth 20000 in
theorem w_X5_closure {l : Launch} {d : Nat} (hd9 : 1 ≤ d) {t : Nat} {a1 : Int32} {a2 : Int32} {h : tq_H} {o : Int32} {Q : tq_R → tq_H → Prop} (hf : f_X5_closure t a1 a2 h = some o) (hQ : ∀ r h9, r = .inl (some (.int o)) ∧ h = h9 → Q r h9) : tq_C l yX5_closure cX5_closure 5 (some .int) d 0 0 [.ref t, .int a1, .int a2] h Q := by
  refine tq_body (y := yX5_closure) false (by decide +kernel) (fun z => by cases z) (Nat.le_of_ble_eq_true rfl) ?_
  show tq_W l mX5_closure d 0 0 Q 0 [(0, .ref t), (1, .int a1), (2, .int a2)] [] h
  refine tq_aload_n (M := mX5_closure) (pc := 0) dX5_closure_0 rfl ?_
  refine tq_iload_n (M := mX5_closure) (pc := 1) dX5_closure_1 rfl ?_
  refine tq_iload_n (M := mX5_closure) (pc := 2) dX5_closure_2 rfl ?_
  obtain ⟨⟨⟩, eu2, hf⟩ := tq_be hf
  obtain ⟨fsu2, eu2⟩ := tq_is_s eu2
  obtain ⟨v1, ev1, hf⟩ := tq_be hf
  refine tq_calV (M := mX5_closure) (pc := 3) (S := []) tk_y_X5_union tk_v_X5_union tk_RX5_33 dX5_closure_3 [.int a1, .int a2] rfl (S0 := _) rfl eu2 rfl (Nat.le_of_ble_eq_true rfl) (d1 := d - 1) (b1 := 0) (s1 := 0) (bc' := 0) (bs' := 0) (Q1 := fun r h9 => r = .inl (some (.int v1)) ∧ h = h9) (by omega) rfl rfl (w_X5_union (by omega) ev1 (fun _ _ q => q)) (fun E h9 q => nomatch (show (Sum.inr E : tq_R) = Sum.inl _ from q.1)) (fun r9 h9 q => ?_)
  obtain ⟨q1, rfl⟩ := q
  cases (show (Sum.inl r9 : tq_R) = Sum.inl (some (.int v1)) from q1)
  refine tq_istore_n (M := mX5_closure) (pc := 6) rfl dX5_closure_6 (L2 := [(3, .int v1), (0, .ref t), (1, .int a1), (2, .int a2)]) (by decide) rfl ?_
  refine tq_iconst (M := mX5_closure) (pc := 7) dX5_closure_7 tk_ki_0 ?_
  refine tq_istore (M := mX5_closure) (pc := 8) dX5_closure_8 (L2 := [(4, .int (0 : Int32)), (3, .int v1), (0, .ref t), (1, .int a1), (2, .int a2)]) (by decide) rfl ?_
  obtain ⟨o7, eo7, hf⟩ := tq_be hf
  refine tq_pick (L2 := [(0, .ref t), (1, .int a1), (3, .int v1), (4, .int (0 : Int32))]) [2, 3, 1, 0] rfl ?_
  refine l_X5_closure_10 (by omega) t a1 h _ v1 (0 : Int32) _ eo7 ?_
  refine tq_iload_n (M := mX5_closure) (pc := 32) dX5_closure_32 rfl ?_
  refine tq_iret (M := mX5_closure) (pc := 33) dX5_closure_33 rfl ?_
  cases (Option.some.inj hf)
  exact hQ _ _ ⟨rfl, rfl⟩
end
section
/-! ===== printed by wip/whole/tools: Layout, Paths ===== -/
abbrev cX3_count : ByteArray := prog_5_method_5_code
def yX3_count : MethodName := ⟨RX3, "count", "()I"⟩
theorem dX3_count_0 : decode cX3_count 0 = .ok (.aload_n 0, 1) := by decide +kernel
theorem dX3_count_1 : decode cX3_count 1 = .ok (.getfield 60, 3) := by decide +kernel
theorem dX3_count_4 : decode cX3_count 4 = .ok (.ireturn, 1) := by decide +kernel
abbrev cX3_depthAt : ByteArray := prog_5_method_12_code
def yX3_depthAt : MethodName := ⟨RX3, "depthAt", "(I)I"⟩
theorem dX3_depthAt_0 : decode cX3_depthAt 0 = .ok (.aload_n 0, 1) := by decide +kernel
theorem dX3_depthAt_1 : decode cX3_depthAt 1 = .ok (.getfield 44, 3) := by decide +kernel
theorem dX3_depthAt_4 : decode cX3_depthAt 4 = .ok (.iload_n 1, 1) := by decide +kernel
theorem dX3_depthAt_5 : decode cX3_depthAt 5 = .ok (.invokevirtual 76, 3) := by decide +kernel
theorem dX3_depthAt_8 : decode cX3_depthAt 8 = .ok (.invokestatic 112, 3) := by decide +kernel
theorem dX3_depthAt_11 : decode cX3_depthAt 11 = .ok (.ireturn, 1) := by decide +kernel
abbrev cX3_sizeAt : ByteArray := prog_5_method_11_code
def yX3_sizeAt : MethodName := ⟨RX3, "sizeAt", "(I)I"⟩
theorem dX3_sizeAt_0 : decode cX3_sizeAt 0 = .ok (.aload_n 0, 1) := by decide +kernel
theorem dX3_sizeAt_1 : decode cX3_sizeAt 1 = .ok (.getfield 26, 3) := by decide +kernel
theorem dX3_sizeAt_4 : decode cX3_sizeAt 4 = .ok (.iload_n 1, 1) := by decide +kernel
theorem dX3_sizeAt_5 : decode cX3_sizeAt 5 = .ok (.invokevirtual 88, 3) := by decide +kernel
theorem dX3_sizeAt_8 : decode cX3_sizeAt 8 = .ok (.iload_n 1, 1) := by decide +kernel
theorem dX3_sizeAt_9 : decode cX3_sizeAt 9 = .ok (.isub, 1) := by decide +kernel
theorem dX3_sizeAt_10 : decode cX3_sizeAt 10 = .ok (.ireturn, 1) := by decide +kernel
abbrev cX3_nodeAt : ByteArray := prog_5_method_8_code
def yX3_nodeAt : MethodName := ⟨RX3, "nodeAt", "(I)I"⟩
theorem dX3_nodeAt_0 : decode cX3_nodeAt 0 = .ok (.aload_n 0, 1) := by decide +kernel
theorem dX3_nodeAt_1 : decode cX3_nodeAt 1 = .ok (.getfield 14, 3) := by decide +kernel
theorem dX3_nodeAt_4 : decode cX3_nodeAt 4 = .ok (.iload_n 1, 1) := by decide +kernel
theorem dX3_nodeAt_5 : decode cX3_nodeAt 5 = .ok (.invokevirtual 88, 3) := by decide +kernel
theorem dX3_nodeAt_8 : decode cX3_nodeAt 8 = .ok (.ireturn, 1) := by decide +kernel
abbrev cX3_elements : ByteArray := prog_5_method_15_code
def yX3_elements : MethodName := ⟨RX3, "elements", "()J"⟩
theorem dX3_elements_0 : decode cX3_elements 0 = .ok (.aload_n 0, 1) := by decide +kernel
theorem dX3_elements_1 : decode cX3_elements 1 = .ok (.getfield 53, 3) := by decide +kernel
theorem dX3_elements_4 : decode cX3_elements 4 = .ok (.lreturn, 1) := by decide +kernel
abbrev cX3_below : ByteArray := prog_5_method_21_code
def yX3_below : MethodName := ⟨RX3, "below", "(I)J"⟩
theorem dX3_below_0 : decode cX3_below 0 = .ok (.aload_n 0, 1) := by decide +kernel
theorem dX3_below_1 : decode cX3_below 1 = .ok (.getfield 47, 3) := by decide +kernel
theorem dX3_below_4 : decode cX3_below 4 = .ok (.iload_n 1, 1) := by decide +kernel
theorem dX3_below_5 : decode cX3_below 5 = .ok (.invokevirtual 76, 3) := by decide +kernel
theorem dX3_below_8 : decode cX3_below 8 = .ok (.lreturn, 1) := by decide +kernel
abbrev cX3_passing : ByteArray := prog_5_method_17_code
def yX3_passing : MethodName := ⟨RX3, "passing", "(I)J"⟩
theorem dX3_passing_0 : decode cX3_passing 0 = .ok (.aload_n 0, 1) := by decide +kernel
theorem dX3_passing_1 : decode cX3_passing 1 = .ok (.getfield 50, 3) := by decide +kernel
theorem dX3_passing_4 : decode cX3_passing 4 = .ok (.iload_n 1, 1) := by decide +kernel
theorem dX3_passing_5 : decode cX3_passing 5 = .ok (.invokevirtual 76, 3) := by decide +kernel
theorem dX3_passing_8 : decode cX3_passing 8 = .ok (.lreturn, 1) := by decide +kernel
abbrev cX3_nodeOfSet : ByteArray := prog_5_method_9_code
def yX3_nodeOfSet : MethodName := ⟨RX3, "nodeOfSet", "(JI)I"⟩
theorem dX3_nodeOfSet_0 : decode cX3_nodeOfSet 0 = .ok (.aload_n 0, 1) := by decide +kernel
theorem dX3_nodeOfSet_1 : decode cX3_nodeOfSet 1 = .ok (.getfield 14, 3) := by decide +kernel
theorem dX3_nodeOfSet_4 : decode cX3_nodeOfSet 4 = .ok (.lload_n 1, 1) := by decide +kernel
theorem dX3_nodeOfSet_5 : decode cX3_nodeOfSet 5 = .ok (.iload_n 3, 1) := by decide +kernel
theorem dX3_nodeOfSet_6 : decode cX3_nodeOfSet 6 = .ok (.invokestatic 108, 3) := by decide +kernel
theorem dX3_nodeOfSet_9 : decode cX3_nodeOfSet 9 = .ok (.invokevirtual 88, 3) := by decide +kernel
theorem dX3_nodeOfSet_12 : decode cX3_nodeOfSet 12 = .ok (.ireturn, 1) := by decide +kernel
abbrev cX4_stepsOf : ByteArray := prog_6_method_8_code
def yX4_stepsOf : MethodName := ⟨RX4, "stepsOf", "(I)I"⟩
theorem dX4_stepsOf_0 : decode cX4_stepsOf 0 = .ok (.aload_n 0, 1) := by decide +kernel
theorem dX4_stepsOf_1 : decode cX4_stepsOf 1 = .ok (.getfield 14, 3) := by decide +kernel
theorem dX4_stepsOf_4 : decode cX4_stepsOf 4 = .ok (.iload_n 1, 1) := by decide +kernel
theorem dX4_stepsOf_5 : decode cX4_stepsOf 5 = .ok (.invokevirtual 48, 3) := by decide +kernel
theorem dX4_stepsOf_8 : decode cX4_stepsOf 8 = .ok (.ireturn, 1) := by decide +kernel
abbrev cX4_stepAt : ByteArray := prog_6_method_6_code
def yX4_stepAt : MethodName := ⟨RX4, "stepAt", "(II)I"⟩
theorem dX4_stepAt_0 : decode cX4_stepAt 0 = .ok (.iload_n 1, 1) := by decide +kernel
theorem dX4_stepAt_1 : decode cX4_stepAt 1 = .ok (.iconst 5, 1) := by decide +kernel
theorem dX4_stepAt_2 : decode cX4_stepAt 2 = .ok (.imul, 1) := by decide +kernel
theorem dX4_stepAt_3 : decode cX4_stepAt 3 = .ok (.iload_n 2, 1) := by decide +kernel
theorem dX4_stepAt_4 : decode cX4_stepAt 4 = .ok (.iadd, 1) := by decide +kernel
theorem dX4_stepAt_5 : decode cX4_stepAt 5 = .ok (.ireturn, 1) := by decide +kernel
abbrev cX4_axisOf : ByteArray := prog_6_method_11_code
def yX4_axisOf : MethodName := ⟨RX4, "axisOf", "(I)I"⟩
theorem dX4_axisOf_0 : decode cX4_axisOf 0 = .ok (.aload_n 0, 1) := by decide +kernel
theorem dX4_axisOf_1 : decode cX4_axisOf 1 = .ok (.getfield 20, 3) := by decide +kernel
theorem dX4_axisOf_4 : decode cX4_axisOf 4 = .ok (.iload_n 1, 1) := by decide +kernel
theorem dX4_axisOf_5 : decode cX4_axisOf 5 = .ok (.invokevirtual 48, 3) := by decide +kernel
theorem dX4_axisOf_8 : decode cX4_axisOf 8 = .ok (.ireturn, 1) := by decide +kernel
abbrev cX4_repeatOf : ByteArray := prog_6_method_13_code
def yX4_repeatOf : MethodName := ⟨RX4, "repeatOf", "(I)I"⟩
theorem dX4_repeatOf_0 : decode cX4_repeatOf 0 = .ok (.aload_n 0, 1) := by decide +kernel
theorem dX4_repeatOf_1 : decode cX4_repeatOf 1 = .ok (.getfield 26, 3) := by decide +kernel
theorem dX4_repeatOf_4 : decode cX4_repeatOf 4 = .ok (.iload_n 1, 1) := by decide +kernel
theorem dX4_repeatOf_5 : decode cX4_repeatOf 5 = .ok (.invokevirtual 48, 3) := by decide +kernel
theorem dX4_repeatOf_8 : decode cX4_repeatOf 8 = .ok (.ireturn, 1) := by decide +kernel
abbrev cX4_testOf : ByteArray := prog_6_method_12_code
def yX4_testOf : MethodName := ⟨RX4, "testOf", "(I)I"⟩
theorem dX4_testOf_0 : decode cX4_testOf 0 = .ok (.aload_n 0, 1) := by decide +kernel
theorem dX4_testOf_1 : decode cX4_testOf 1 = .ok (.getfield 23, 3) := by decide +kernel
theorem dX4_testOf_4 : decode cX4_testOf 4 = .ok (.iload_n 1, 1) := by decide +kernel
theorem dX4_testOf_5 : decode cX4_testOf 5 = .ok (.invokevirtual 48, 3) := by decide +kernel
theorem dX4_testOf_8 : decode cX4_testOf 8 = .ok (.ireturn, 1) := by decide +kernel
abbrev cX3_reached : ByteArray := prog_5_method_25_code
def yX3_reached : MethodName := ⟨RX3, "reached", "(II)J"⟩
theorem dX3_reached_0 : decode cX3_reached 0 = .ok (.iload_n 1, 1) := by decide +kernel
theorem dX3_reached_1 : decode cX3_reached 1 = .ok (.tableswitch 270 0 11 #[63, 68, 86, 98, 116, 139, 148, 162, 195, 222, 242, 256], 63) := by decide +kernel
theorem dX3_reached_64 : decode cX3_reached 64 = .ok (.iload_n 2, 1) := by decide +kernel
theorem dX3_reached_65 : decode cX3_reached 65 = .ok (.invokestatic 80, 3) := by decide +kernel
theorem dX3_reached_68 : decode cX3_reached 68 = .ok (.lreturn, 1) := by decide +kernel
theorem dX3_reached_69 : decode cX3_reached 69 = .ok (.aload_n 0, 1) := by decide +kernel
theorem dX3_reached_70 : decode cX3_reached 70 = .ok (.getfield 37, 3) := by decide +kernel
theorem dX3_reached_73 : decode cX3_reached 73 = .ok (.iload_n 2, 1) := by decide +kernel
theorem dX3_reached_74 : decode cX3_reached 74 = .ok (.invokevirtual 76, 3) := by decide +kernel
theorem dX3_reached_77 : decode cX3_reached 77 = .ok (.aload_n 0, 1) := by decide +kernel
theorem dX3_reached_78 : decode cX3_reached 78 = .ok (.getfield 57, 3) := by decide +kernel
theorem dX3_reached_81 : decode cX3_reached 81 = .ok (.ldc2_w 99, 3) := by decide +kernel
theorem dX3_reached_84 : decode cX3_reached 84 = .ok (.lxor, 1) := by decide +kernel
theorem dX3_reached_85 : decode cX3_reached 85 = .ok (.land, 1) := by decide +kernel
theorem dX3_reached_86 : decode cX3_reached 86 = .ok (.lreturn, 1) := by decide +kernel
theorem dX3_reached_87 : decode cX3_reached 87 = .ok (.aload_n 0, 1) := by decide +kernel
theorem dX3_reached_88 : decode cX3_reached 88 = .ok (.getfield 23, 3) := by decide +kernel
theorem dX3_reached_91 : decode cX3_reached 91 = .ok (.iload_n 2, 1) := by decide +kernel
theorem dX3_reached_92 : decode cX3_reached 92 = .ok (.invokevirtual 88, 3) := by decide +kernel
theorem dX3_reached_95 : decode cX3_reached 95 = .ok (.invokestatic 80, 3) := by decide +kernel
theorem dX3_reached_98 : decode cX3_reached 98 = .ok (.lreturn, 1) := by decide +kernel
theorem dX3_reached_99 : decode cX3_reached 99 = .ok (.aload_n 0, 1) := by decide +kernel
theorem dX3_reached_100 : decode cX3_reached 100 = .ok (.getfield 47, 3) := by decide +kernel
theorem dX3_reached_103 : decode cX3_reached 103 = .ok (.iload_n 2, 1) := by decide +kernel
theorem dX3_reached_104 : decode cX3_reached 104 = .ok (.invokevirtual 76, 3) := by decide +kernel
theorem dX3_reached_107 : decode cX3_reached 107 = .ok (.aload_n 0, 1) := by decide +kernel
theorem dX3_reached_108 : decode cX3_reached 108 = .ok (.getfield 57, 3) := by decide +kernel
theorem dX3_reached_111 : decode cX3_reached 111 = .ok (.ldc2_w 99, 3) := by decide +kernel
theorem dX3_reached_114 : decode cX3_reached 114 = .ok (.lxor, 1) := by decide +kernel
theorem dX3_reached_115 : decode cX3_reached 115 = .ok (.land, 1) := by decide +kernel
theorem dX3_reached_116 : decode cX3_reached 116 = .ok (.lreturn, 1) := by decide +kernel
theorem dX3_reached_117 : decode cX3_reached 117 = .ok (.aload_n 0, 1) := by decide +kernel
theorem dX3_reached_118 : decode cX3_reached 118 = .ok (.getfield 47, 3) := by decide +kernel
theorem dX3_reached_121 : decode cX3_reached 121 = .ok (.iload_n 2, 1) := by decide +kernel
theorem dX3_reached_122 : decode cX3_reached 122 = .ok (.invokevirtual 76, 3) := by decide +kernel
theorem dX3_reached_125 : decode cX3_reached 125 = .ok (.aload_n 0, 1) := by decide +kernel
theorem dX3_reached_126 : decode cX3_reached 126 = .ok (.getfield 57, 3) := by decide +kernel
theorem dX3_reached_129 : decode cX3_reached 129 = .ok (.ldc2_w 99, 3) := by decide +kernel
theorem dX3_reached_132 : decode cX3_reached 132 = .ok (.lxor, 1) := by decide +kernel
theorem dX3_reached_133 : decode cX3_reached 133 = .ok (.land, 1) := by decide +kernel
theorem dX3_reached_134 : decode cX3_reached 134 = .ok (.iload_n 2, 1) := by decide +kernel
theorem dX3_reached_135 : decode cX3_reached 135 = .ok (.invokestatic 80, 3) := by decide +kernel
theorem dX3_reached_138 : decode cX3_reached 138 = .ok (.lor, 1) := by decide +kernel
theorem dX3_reached_139 : decode cX3_reached 139 = .ok (.lreturn, 1) := by decide +kernel
theorem dX3_reached_140 : decode cX3_reached 140 = .ok (.aload_n 0, 1) := by decide +kernel
theorem dX3_reached_141 : decode cX3_reached 141 = .ok (.getfield 44, 3) := by decide +kernel
theorem dX3_reached_144 : decode cX3_reached 144 = .ok (.iload_n 2, 1) := by decide +kernel
theorem dX3_reached_145 : decode cX3_reached 145 = .ok (.invokevirtual 76, 3) := by decide +kernel
theorem dX3_reached_148 : decode cX3_reached 148 = .ok (.lreturn, 1) := by decide +kernel
theorem dX3_reached_149 : decode cX3_reached 149 = .ok (.aload_n 0, 1) := by decide +kernel
theorem dX3_reached_150 : decode cX3_reached 150 = .ok (.getfield 44, 3) := by decide +kernel
theorem dX3_reached_153 : decode cX3_reached 153 = .ok (.iload_n 2, 1) := by decide +kernel
theorem dX3_reached_154 : decode cX3_reached 154 = .ok (.invokevirtual 76, 3) := by decide +kernel
theorem dX3_reached_157 : decode cX3_reached 157 = .ok (.iload_n 2, 1) := by decide +kernel
theorem dX3_reached_158 : decode cX3_reached 158 = .ok (.invokestatic 80, 3) := by decide +kernel
theorem dX3_reached_161 : decode cX3_reached 161 = .ok (.lor, 1) := by decide +kernel
theorem dX3_reached_162 : decode cX3_reached 162 = .ok (.lreturn, 1) := by decide +kernel
theorem dX3_reached_163 : decode cX3_reached 163 = .ok (.aload_n 0, 1) := by decide +kernel
theorem dX3_reached_164 : decode cX3_reached 164 = .ok (.getfield 60, 3) := by decide +kernel
theorem dX3_reached_167 : decode cX3_reached 167 = .ok (.invokestatic 97, 3) := by decide +kernel
theorem dX3_reached_170 : decode cX3_reached 170 = .ok (.aload_n 0, 1) := by decide +kernel
theorem dX3_reached_171 : decode cX3_reached 171 = .ok (.getfield 26, 3) := by decide +kernel
theorem dX3_reached_174 : decode cX3_reached 174 = .ok (.iload_n 2, 1) := by decide +kernel
theorem dX3_reached_175 : decode cX3_reached 175 = .ok (.invokevirtual 88, 3) := by decide +kernel
theorem dX3_reached_178 : decode cX3_reached 178 = .ok (.invokestatic 97, 3) := by decide +kernel
theorem dX3_reached_181 : decode cX3_reached 181 = .ok (.ldc2_w 99, 3) := by decide +kernel
theorem dX3_reached_184 : decode cX3_reached 184 = .ok (.lxor, 1) := by decide +kernel
theorem dX3_reached_185 : decode cX3_reached 185 = .ok (.land, 1) := by decide +kernel
theorem dX3_reached_186 : decode cX3_reached 186 = .ok (.aload_n 0, 1) := by decide +kernel
theorem dX3_reached_187 : decode cX3_reached 187 = .ok (.getfield 57, 3) := by decide +kernel
theorem dX3_reached_190 : decode cX3_reached 190 = .ok (.ldc2_w 99, 3) := by decide +kernel
theorem dX3_reached_193 : decode cX3_reached 193 = .ok (.lxor, 1) := by decide +kernel
theorem dX3_reached_194 : decode cX3_reached 194 = .ok (.land, 1) := by decide +kernel
theorem dX3_reached_195 : decode cX3_reached 195 = .ok (.lreturn, 1) := by decide +kernel
theorem dX3_reached_196 : decode cX3_reached 196 = .ok (.iload_n 2, 1) := by decide +kernel
theorem dX3_reached_197 : decode cX3_reached 197 = .ok (.invokestatic 97, 3) := by decide +kernel
theorem dX3_reached_200 : decode cX3_reached 200 = .ok (.aload_n 0, 1) := by decide +kernel
theorem dX3_reached_201 : decode cX3_reached 201 = .ok (.getfield 57, 3) := by decide +kernel
theorem dX3_reached_204 : decode cX3_reached 204 = .ok (.ldc2_w 99, 3) := by decide +kernel
theorem dX3_reached_207 : decode cX3_reached 207 = .ok (.lxor, 1) := by decide +kernel
theorem dX3_reached_208 : decode cX3_reached 208 = .ok (.land, 1) := by decide +kernel
theorem dX3_reached_209 : decode cX3_reached 209 = .ok (.aload_n 0, 1) := by decide +kernel
theorem dX3_reached_210 : decode cX3_reached 210 = .ok (.getfield 44, 3) := by decide +kernel
theorem dX3_reached_213 : decode cX3_reached 213 = .ok (.iload_n 2, 1) := by decide +kernel
theorem dX3_reached_214 : decode cX3_reached 214 = .ok (.invokevirtual 76, 3) := by decide +kernel
theorem dX3_reached_217 : decode cX3_reached 217 = .ok (.ldc2_w 99, 3) := by decide +kernel
theorem dX3_reached_220 : decode cX3_reached 220 = .ok (.lxor, 1) := by decide +kernel
theorem dX3_reached_221 : decode cX3_reached 221 = .ok (.land, 1) := by decide +kernel
theorem dX3_reached_222 : decode cX3_reached 222 = .ok (.lreturn, 1) := by decide +kernel
theorem dX3_reached_223 : decode cX3_reached 223 = .ok (.aload_n 0, 1) := by decide +kernel
theorem dX3_reached_224 : decode cX3_reached 224 = .ok (.getfield 41, 3) := by decide +kernel
theorem dX3_reached_227 : decode cX3_reached 227 = .ok (.iload_n 2, 1) := by decide +kernel
theorem dX3_reached_228 : decode cX3_reached 228 = .ok (.invokevirtual 76, 3) := by decide +kernel
theorem dX3_reached_231 : decode cX3_reached 231 = .ok (.iload_n 2, 1) := by decide +kernel
theorem dX3_reached_232 : decode cX3_reached 232 = .ok (.iconst 1, 1) := by decide +kernel
theorem dX3_reached_233 : decode cX3_reached 233 = .ok (.iadd, 1) := by decide +kernel
theorem dX3_reached_234 : decode cX3_reached 234 = .ok (.invokestatic 97, 3) := by decide +kernel
theorem dX3_reached_237 : decode cX3_reached 237 = .ok (.ldc2_w 99, 3) := by decide +kernel
theorem dX3_reached_240 : decode cX3_reached 240 = .ok (.lxor, 1) := by decide +kernel
theorem dX3_reached_241 : decode cX3_reached 241 = .ok (.land, 1) := by decide +kernel
theorem dX3_reached_242 : decode cX3_reached 242 = .ok (.lreturn, 1) := by decide +kernel
theorem dX3_reached_243 : decode cX3_reached 243 = .ok (.aload_n 0, 1) := by decide +kernel
theorem dX3_reached_244 : decode cX3_reached 244 = .ok (.getfield 41, 3) := by decide +kernel
theorem dX3_reached_247 : decode cX3_reached 247 = .ok (.iload_n 2, 1) := by decide +kernel
theorem dX3_reached_248 : decode cX3_reached 248 = .ok (.invokevirtual 76, 3) := by decide +kernel
theorem dX3_reached_251 : decode cX3_reached 251 = .ok (.iload_n 2, 1) := by decide +kernel
theorem dX3_reached_252 : decode cX3_reached 252 = .ok (.invokestatic 97, 3) := by decide +kernel
theorem dX3_reached_255 : decode cX3_reached 255 = .ok (.land, 1) := by decide +kernel
theorem dX3_reached_256 : decode cX3_reached 256 = .ok (.lreturn, 1) := by decide +kernel
theorem dX3_reached_257 : decode cX3_reached 257 = .ok (.aload_n 0, 1) := by decide +kernel
theorem dX3_reached_258 : decode cX3_reached 258 = .ok (.getfield 37, 3) := by decide +kernel
theorem dX3_reached_261 : decode cX3_reached 261 = .ok (.iload_n 2, 1) := by decide +kernel
theorem dX3_reached_262 : decode cX3_reached 262 = .ok (.invokevirtual 76, 3) := by decide +kernel
theorem dX3_reached_265 : decode cX3_reached 265 = .ok (.aload_n 0, 1) := by decide +kernel
theorem dX3_reached_266 : decode cX3_reached 266 = .ok (.getfield 57, 3) := by decide +kernel
theorem dX3_reached_269 : decode cX3_reached 269 = .ok (.land, 1) := by decide +kernel
theorem dX3_reached_270 : decode cX3_reached 270 = .ok (.lreturn, 1) := by decide +kernel
theorem dX3_reached_271 : decode cX3_reached 271 = .ok (.lconst 0, 1) := by decide +kernel
theorem dX3_reached_272 : decode cX3_reached 272 = .ok (.lreturn, 1) := by decide +kernel
abbrev cX4_conditionsOf : ByteArray := prog_6_method_9_code
def yX4_conditionsOf : MethodName := ⟨RX4, "conditionsOf", "(I)I"⟩
theorem dX4_conditionsOf_0 : decode cX4_conditionsOf 0 = .ok (.aload_n 0, 1) := by decide +kernel
theorem dX4_conditionsOf_1 : decode cX4_conditionsOf 1 = .ok (.getfield 29, 3) := by decide +kernel
theorem dX4_conditionsOf_4 : decode cX4_conditionsOf 4 = .ok (.iload_n 1, 1) := by decide +kernel
theorem dX4_conditionsOf_5 : decode cX4_conditionsOf 5 = .ok (.invokevirtual 48, 3) := by decide +kernel
theorem dX4_conditionsOf_8 : decode cX4_conditionsOf 8 = .ok (.ireturn, 1) := by decide +kernel
abbrev cX4_conditionAt : ByteArray := prog_6_method_7_code
def yX4_conditionAt : MethodName := ⟨RX4, "conditionAt", "(II)I"⟩
theorem dX4_conditionAt_0 : decode cX4_conditionAt 0 = .ok (.iload_n 1, 1) := by decide +kernel
theorem dX4_conditionAt_1 : decode cX4_conditionAt 1 = .ok (.iconst 2, 1) := by decide +kernel
theorem dX4_conditionAt_2 : decode cX4_conditionAt 2 = .ok (.imul, 1) := by decide +kernel
theorem dX4_conditionAt_3 : decode cX4_conditionAt 3 = .ok (.iload_n 2, 1) := by decide +kernel
theorem dX4_conditionAt_4 : decode cX4_conditionAt 4 = .ok (.iadd, 1) := by decide +kernel
theorem dX4_conditionAt_5 : decode cX4_conditionAt 5 = .ok (.ireturn, 1) := by decide +kernel
abbrev cX4_whatOf : ByteArray := prog_6_method_14_code
def yX4_whatOf : MethodName := ⟨RX4, "whatOf", "(I)I"⟩
theorem dX4_whatOf_0 : decode cX4_whatOf 0 = .ok (.aload_n 0, 1) := by decide +kernel
theorem dX4_whatOf_1 : decode cX4_whatOf 1 = .ok (.getfield 32, 3) := by decide +kernel
theorem dX4_whatOf_4 : decode cX4_whatOf 4 = .ok (.iload_n 1, 1) := by decide +kernel
theorem dX4_whatOf_5 : decode cX4_whatOf 5 = .ok (.invokevirtual 48, 3) := by decide +kernel
theorem dX4_whatOf_8 : decode cX4_whatOf 8 = .ok (.ireturn, 1) := by decide +kernel
abbrev cX4_comparisonOf : ByteArray := prog_6_method_16_code
def yX4_comparisonOf : MethodName := ⟨RX4, "comparisonOf", "(I)I"⟩
theorem dX4_comparisonOf_0 : decode cX4_comparisonOf 0 = .ok (.aload_n 0, 1) := by decide +kernel
theorem dX4_comparisonOf_1 : decode cX4_comparisonOf 1 = .ok (.getfield 38, 3) := by decide +kernel
theorem dX4_comparisonOf_4 : decode cX4_comparisonOf 4 = .ok (.iload_n 1, 1) := by decide +kernel
theorem dX4_comparisonOf_5 : decode cX4_comparisonOf 5 = .ok (.invokevirtual 48, 3) := by decide +kernel
theorem dX4_comparisonOf_8 : decode cX4_comparisonOf 8 = .ok (.ireturn, 1) := by decide +kernel
abbrev cX4_numberOf : ByteArray := prog_6_method_17_code
def yX4_numberOf : MethodName := ⟨RX4, "numberOf", "(I)I"⟩
theorem dX4_numberOf_0 : decode cX4_numberOf 0 = .ok (.aload_n 0, 1) := by decide +kernel
theorem dX4_numberOf_1 : decode cX4_numberOf 1 = .ok (.getfield 41, 3) := by decide +kernel
theorem dX4_numberOf_4 : decode cX4_numberOf 4 = .ok (.iload_n 1, 1) := by decide +kernel
theorem dX4_numberOf_5 : decode cX4_numberOf 5 = .ok (.invokevirtual 48, 3) := by decide +kernel
theorem dX4_numberOf_8 : decode cX4_numberOf 8 = .ok (.ireturn, 1) := by decide +kernel
abbrev cX4_otherOf : ByteArray := prog_6_method_15_code
def yX4_otherOf : MethodName := ⟨RX4, "otherOf", "(I)I"⟩
theorem dX4_otherOf_0 : decode cX4_otherOf 0 = .ok (.aload_n 0, 1) := by decide +kernel
theorem dX4_otherOf_1 : decode cX4_otherOf 1 = .ok (.getfield 35, 3) := by decide +kernel
theorem dX4_otherOf_4 : decode cX4_otherOf 4 = .ok (.iload_n 1, 1) := by decide +kernel
theorem dX4_otherOf_5 : decode cX4_otherOf 5 = .ok (.invokevirtual 48, 3) := by decide +kernel
theorem dX4_otherOf_8 : decode cX4_otherOf 8 = .ok (.ireturn, 1) := by decide +kernel
abbrev cX3_init : ByteArray := prog_5_method_1_code
def yX3_init : MethodName := ⟨RX3, "<init>", "()V"⟩
theorem dX3_init_0 : decode cX3_init 0 = .ok (.aload_n 0, 1) := by decide +kernel
theorem dX3_init_1 : decode cX3_init 1 = .ok (.invokespecial 3, 3) := by decide +kernel
theorem dX3_init_4 : decode cX3_init 4 = .ok (.aload_n 0, 1) := by decide +kernel
theorem dX3_init_5 : decode cX3_init 5 = .ok (.new 9, 3) := by decide +kernel
theorem dX3_init_8 : decode cX3_init 8 = .ok (.dup, 1) := by decide +kernel
theorem dX3_init_9 : decode cX3_init 9 = .ok (.bipush 60, 2) := by decide +kernel
theorem dX3_init_11 : decode cX3_init 11 = .ok (.iconst (-1), 1) := by decide +kernel
theorem dX3_init_12 : decode cX3_init 12 = .ok (.invokespecial 11, 3) := by decide +kernel
theorem dX3_init_15 : decode cX3_init 15 = .ok (.putfield 14, 3) := by decide +kernel
theorem dX3_init_18 : decode cX3_init 18 = .ok (.aload_n 0, 1) := by decide +kernel
theorem dX3_init_19 : decode cX3_init 19 = .ok (.new 9, 3) := by decide +kernel
theorem dX3_init_22 : decode cX3_init 22 = .ok (.dup, 1) := by decide +kernel
theorem dX3_init_23 : decode cX3_init 23 = .ok (.bipush 60, 2) := by decide +kernel
theorem dX3_init_25 : decode cX3_init 25 = .ok (.iconst (-1), 1) := by decide +kernel
theorem dX3_init_26 : decode cX3_init 26 = .ok (.invokespecial 11, 3) := by decide +kernel
theorem dX3_init_29 : decode cX3_init 29 = .ok (.putfield 20, 3) := by decide +kernel
theorem dX3_init_32 : decode cX3_init 32 = .ok (.aload_n 0, 1) := by decide +kernel
theorem dX3_init_33 : decode cX3_init 33 = .ok (.new 9, 3) := by decide +kernel
theorem dX3_init_36 : decode cX3_init 36 = .ok (.dup, 1) := by decide +kernel
theorem dX3_init_37 : decode cX3_init 37 = .ok (.bipush 60, 2) := by decide +kernel
theorem dX3_init_39 : decode cX3_init 39 = .ok (.iconst (-1), 1) := by decide +kernel
theorem dX3_init_40 : decode cX3_init 40 = .ok (.invokespecial 11, 3) := by decide +kernel
theorem dX3_init_43 : decode cX3_init 43 = .ok (.putfield 23, 3) := by decide +kernel
theorem dX3_init_46 : decode cX3_init 46 = .ok (.aload_n 0, 1) := by decide +kernel
theorem dX3_init_47 : decode cX3_init 47 = .ok (.new 9, 3) := by decide +kernel
theorem dX3_init_50 : decode cX3_init 50 = .ok (.dup, 1) := by decide +kernel
theorem dX3_init_51 : decode cX3_init 51 = .ok (.bipush 60, 2) := by decide +kernel
theorem dX3_init_53 : decode cX3_init 53 = .ok (.iconst 0, 1) := by decide +kernel
theorem dX3_init_54 : decode cX3_init 54 = .ok (.invokespecial 11, 3) := by decide +kernel
theorem dX3_init_57 : decode cX3_init 57 = .ok (.putfield 26, 3) := by decide +kernel
theorem dX3_init_60 : decode cX3_init 60 = .ok (.aload_n 0, 1) := by decide +kernel
theorem dX3_init_61 : decode cX3_init 61 = .ok (.new 9, 3) := by decide +kernel
theorem dX3_init_64 : decode cX3_init 64 = .ok (.dup, 1) := by decide +kernel
theorem dX3_init_65 : decode cX3_init 65 = .ok (.bipush 60, 2) := by decide +kernel
theorem dX3_init_67 : decode cX3_init 67 = .ok (.iconst (-1), 1) := by decide +kernel
theorem dX3_init_68 : decode cX3_init 68 = .ok (.invokespecial 11, 3) := by decide +kernel
theorem dX3_init_71 : decode cX3_init 71 = .ok (.putfield 29, 3) := by decide +kernel
theorem dX3_init_74 : decode cX3_init 74 = .ok (.aload_n 0, 1) := by decide +kernel
theorem dX3_init_75 : decode cX3_init 75 = .ok (.new 32, 3) := by decide +kernel
theorem dX3_init_78 : decode cX3_init 78 = .ok (.dup, 1) := by decide +kernel
theorem dX3_init_79 : decode cX3_init 79 = .ok (.bipush 60, 2) := by decide +kernel
theorem dX3_init_81 : decode cX3_init 81 = .ok (.invokespecial 34, 3) := by decide +kernel
theorem dX3_init_84 : decode cX3_init 84 = .ok (.putfield 37, 3) := by decide +kernel
theorem dX3_init_87 : decode cX3_init 87 = .ok (.aload_n 0, 1) := by decide +kernel
theorem dX3_init_88 : decode cX3_init 88 = .ok (.new 32, 3) := by decide +kernel
theorem dX3_init_91 : decode cX3_init 91 = .ok (.dup, 1) := by decide +kernel
theorem dX3_init_92 : decode cX3_init 92 = .ok (.bipush 60, 2) := by decide +kernel
theorem dX3_init_94 : decode cX3_init 94 = .ok (.invokespecial 34, 3) := by decide +kernel
theorem dX3_init_97 : decode cX3_init 97 = .ok (.putfield 41, 3) := by decide +kernel
theorem dX3_init_100 : decode cX3_init 100 = .ok (.aload_n 0, 1) := by decide +kernel
theorem dX3_init_101 : decode cX3_init 101 = .ok (.new 32, 3) := by decide +kernel
theorem dX3_init_104 : decode cX3_init 104 = .ok (.dup, 1) := by decide +kernel
theorem dX3_init_105 : decode cX3_init 105 = .ok (.bipush 60, 2) := by decide +kernel
theorem dX3_init_107 : decode cX3_init 107 = .ok (.invokespecial 34, 3) := by decide +kernel
theorem dX3_init_110 : decode cX3_init 110 = .ok (.putfield 44, 3) := by decide +kernel
theorem dX3_init_113 : decode cX3_init 113 = .ok (.aload_n 0, 1) := by decide +kernel
theorem dX3_init_114 : decode cX3_init 114 = .ok (.new 32, 3) := by decide +kernel
theorem dX3_init_117 : decode cX3_init 117 = .ok (.dup, 1) := by decide +kernel
theorem dX3_init_118 : decode cX3_init 118 = .ok (.bipush 60, 2) := by decide +kernel
theorem dX3_init_120 : decode cX3_init 120 = .ok (.invokespecial 34, 3) := by decide +kernel
theorem dX3_init_123 : decode cX3_init 123 = .ok (.putfield 47, 3) := by decide +kernel
theorem dX3_init_126 : decode cX3_init 126 = .ok (.aload_n 0, 1) := by decide +kernel
theorem dX3_init_127 : decode cX3_init 127 = .ok (.new 32, 3) := by decide +kernel
theorem dX3_init_130 : decode cX3_init 130 = .ok (.dup, 1) := by decide +kernel
theorem dX3_init_131 : decode cX3_init 131 = .ok (.bipush 14, 2) := by decide +kernel
theorem dX3_init_133 : decode cX3_init 133 = .ok (.invokespecial 34, 3) := by decide +kernel
theorem dX3_init_136 : decode cX3_init 136 = .ok (.putfield 50, 3) := by decide +kernel
theorem dX3_init_139 : decode cX3_init 139 = .ok (.aload_n 0, 1) := by decide +kernel
theorem dX3_init_140 : decode cX3_init 140 = .ok (.lconst 0, 1) := by decide +kernel
theorem dX3_init_141 : decode cX3_init 141 = .ok (.putfield 53, 3) := by decide +kernel
theorem dX3_init_144 : decode cX3_init 144 = .ok (.aload_n 0, 1) := by decide +kernel
theorem dX3_init_145 : decode cX3_init 145 = .ok (.lconst 0, 1) := by decide +kernel
theorem dX3_init_146 : decode cX3_init 146 = .ok (.putfield 57, 3) := by decide +kernel
theorem dX3_init_149 : decode cX3_init 149 = .ok (.aload_n 0, 1) := by decide +kernel
theorem dX3_init_150 : decode cX3_init 150 = .ok (.iconst 0, 1) := by decide +kernel
theorem dX3_init_151 : decode cX3_init 151 = .ok (.putfield 60, 3) := by decide +kernel
theorem dX3_init_154 : decode cX3_init 154 = .ok (.return_, 1) := by decide +kernel
abbrev cX3_clear : ByteArray := prog_5_method_2_code
def yX3_clear : MethodName := ⟨RX3, "clear", "()V"⟩
theorem dX3_clear_0 : decode cX3_clear 0 = .ok (.aload_n 0, 1) := by decide +kernel
theorem dX3_clear_1 : decode cX3_clear 1 = .ok (.getfield 20, 3) := by decide +kernel
theorem dX3_clear_4 : decode cX3_clear 4 = .ok (.iconst (-1), 1) := by decide +kernel
theorem dX3_clear_5 : decode cX3_clear 5 = .ok (.invokevirtual 64, 3) := by decide +kernel
theorem dX3_clear_8 : decode cX3_clear 8 = .ok (.aload_n 0, 1) := by decide +kernel
theorem dX3_clear_9 : decode cX3_clear 9 = .ok (.getfield 37, 3) := by decide +kernel
theorem dX3_clear_12 : decode cX3_clear 12 = .ok (.invokevirtual 67, 3) := by decide +kernel
theorem dX3_clear_15 : decode cX3_clear 15 = .ok (.aload_n 0, 1) := by decide +kernel
theorem dX3_clear_16 : decode cX3_clear 16 = .ok (.getfield 50, 3) := by decide +kernel
theorem dX3_clear_19 : decode cX3_clear 19 = .ok (.invokevirtual 67, 3) := by decide +kernel
theorem dX3_clear_22 : decode cX3_clear 22 = .ok (.aload_n 0, 1) := by decide +kernel
theorem dX3_clear_23 : decode cX3_clear 23 = .ok (.lconst 0, 1) := by decide +kernel
theorem dX3_clear_24 : decode cX3_clear 24 = .ok (.putfield 53, 3) := by decide +kernel
theorem dX3_clear_27 : decode cX3_clear 27 = .ok (.aload_n 0, 1) := by decide +kernel
theorem dX3_clear_28 : decode cX3_clear 28 = .ok (.lconst 0, 1) := by decide +kernel
theorem dX3_clear_29 : decode cX3_clear 29 = .ok (.putfield 57, 3) := by decide +kernel
theorem dX3_clear_32 : decode cX3_clear 32 = .ok (.aload_n 0, 1) := by decide +kernel
theorem dX3_clear_33 : decode cX3_clear 33 = .ok (.iconst 0, 1) := by decide +kernel
theorem dX3_clear_34 : decode cX3_clear 34 = .ok (.putfield 60, 3) := by decide +kernel
theorem dX3_clear_37 : decode cX3_clear 37 = .ok (.return_, 1) := by decide +kernel
abbrev cX3_add : ByteArray := prog_5_method_3_code
def yX3_add : MethodName := ⟨RX3, "add", "(IIIII)V"⟩
theorem dX3_add_0 : decode cX3_add 0 = .ok (.aload_n 0, 1) := by decide +kernel
theorem dX3_add_1 : decode cX3_add 1 = .ok (.getfield 60, 3) := by decide +kernel
theorem dX3_add_4 : decode cX3_add 4 = .ok (.istore 6, 2) := by decide +kernel
theorem dX3_add_6 : decode cX3_add 6 = .ok (.aload_n 0, 1) := by decide +kernel
theorem dX3_add_7 : decode cX3_add 7 = .ok (.dup, 1) := by decide +kernel
theorem dX3_add_8 : decode cX3_add 8 = .ok (.getfield 60, 3) := by decide +kernel
theorem dX3_add_11 : decode cX3_add 11 = .ok (.iconst 1, 1) := by decide +kernel
theorem dX3_add_12 : decode cX3_add 12 = .ok (.iadd, 1) := by decide +kernel
theorem dX3_add_13 : decode cX3_add 13 = .ok (.putfield 60, 3) := by decide +kernel
theorem dX3_add_16 : decode cX3_add 16 = .ok (.aload_n 0, 1) := by decide +kernel
theorem dX3_add_17 : decode cX3_add 17 = .ok (.getfield 14, 3) := by decide +kernel
theorem dX3_add_20 : decode cX3_add 20 = .ok (.iload 6, 2) := by decide +kernel
theorem dX3_add_22 : decode cX3_add 22 = .ok (.iload_n 1, 1) := by decide +kernel
theorem dX3_add_23 : decode cX3_add 23 = .ok (.invokevirtual 70, 3) := by decide +kernel
theorem dX3_add_26 : decode cX3_add 26 = .ok (.aload_n 0, 1) := by decide +kernel
theorem dX3_add_27 : decode cX3_add 27 = .ok (.getfield 20, 3) := by decide +kernel
theorem dX3_add_30 : decode cX3_add 30 = .ok (.iload_n 1, 1) := by decide +kernel
theorem dX3_add_31 : decode cX3_add 31 = .ok (.iload 6, 2) := by decide +kernel
theorem dX3_add_33 : decode cX3_add 33 = .ok (.invokevirtual 70, 3) := by decide +kernel
theorem dX3_add_36 : decode cX3_add 36 = .ok (.aload_n 0, 1) := by decide +kernel
theorem dX3_add_37 : decode cX3_add 37 = .ok (.getfield 23, 3) := by decide +kernel
theorem dX3_add_40 : decode cX3_add 40 = .ok (.iload 6, 2) := by decide +kernel
theorem dX3_add_42 : decode cX3_add 42 = .ok (.iload_n 2, 1) := by decide +kernel
theorem dX3_add_43 : decode cX3_add 43 = .ok (.invokevirtual 70, 3) := by decide +kernel
theorem dX3_add_46 : decode cX3_add 46 = .ok (.aload_n 0, 1) := by decide +kernel
theorem dX3_add_47 : decode cX3_add 47 = .ok (.getfield 37, 3) := by decide +kernel
theorem dX3_add_50 : decode cX3_add 50 = .ok (.iload_n 2, 1) := by decide +kernel
theorem dX3_add_51 : decode cX3_add 51 = .ok (.iload 6, 2) := by decide +kernel
theorem dX3_add_53 : decode cX3_add 53 = .ok (.invokevirtual 73, 3) := by decide +kernel
theorem dX3_add_56 : decode cX3_add 56 = .ok (.aload_n 0, 1) := by decide +kernel
theorem dX3_add_57 : decode cX3_add 57 = .ok (.getfield 44, 3) := by decide +kernel
theorem dX3_add_60 : decode cX3_add 60 = .ok (.iload 6, 2) := by decide +kernel
theorem dX3_add_62 : decode cX3_add 62 = .ok (.aload_n 0, 1) := by decide +kernel
theorem dX3_add_63 : decode cX3_add 63 = .ok (.getfield 44, 3) := by decide +kernel
theorem dX3_add_66 : decode cX3_add 66 = .ok (.iload_n 2, 1) := by decide +kernel
theorem dX3_add_67 : decode cX3_add 67 = .ok (.invokevirtual 76, 3) := by decide +kernel
theorem dX3_add_70 : decode cX3_add 70 = .ok (.iload_n 2, 1) := by decide +kernel
theorem dX3_add_71 : decode cX3_add 71 = .ok (.invokestatic 80, 3) := by decide +kernel
theorem dX3_add_74 : decode cX3_add 74 = .ok (.lor, 1) := by decide +kernel
theorem dX3_add_75 : decode cX3_add 75 = .ok (.invokevirtual 85, 3) := by decide +kernel
theorem dX3_add_78 : decode cX3_add 78 = .ok (.aload_n 0, 1) := by decide +kernel
theorem dX3_add_79 : decode cX3_add 79 = .ok (.getfield 26, 3) := by decide +kernel
theorem dX3_add_82 : decode cX3_add 82 = .ok (.iload 6, 2) := by decide +kernel
theorem dX3_add_84 : decode cX3_add 84 = .ok (.iload 6, 2) := by decide +kernel
theorem dX3_add_86 : decode cX3_add 86 = .ok (.iconst 1, 1) := by decide +kernel
theorem dX3_add_87 : decode cX3_add 87 = .ok (.iadd, 1) := by decide +kernel
theorem dX3_add_88 : decode cX3_add 88 = .ok (.invokevirtual 70, 3) := by decide +kernel
theorem dX3_add_91 : decode cX3_add 91 = .ok (.aload_n 0, 1) := by decide +kernel
theorem dX3_add_92 : decode cX3_add 92 = .ok (.getfield 29, 3) := by decide +kernel
theorem dX3_add_95 : decode cX3_add 95 = .ok (.iload 6, 2) := by decide +kernel
theorem dX3_add_97 : decode cX3_add 97 = .ok (.iconst (-1), 1) := by decide +kernel
theorem dX3_add_98 : decode cX3_add 98 = .ok (.invokevirtual 70, 3) := by decide +kernel
theorem dX3_add_101 : decode cX3_add 101 = .ok (.aload_n 0, 1) := by decide +kernel
theorem dX3_add_102 : decode cX3_add 102 = .ok (.getfield 50, 3) := by decide +kernel
theorem dX3_add_105 : decode cX3_add 105 = .ok (.bipush 8, 2) := by decide +kernel
theorem dX3_add_107 : decode cX3_add 107 = .ok (.iload 6, 2) := by decide +kernel
theorem dX3_add_109 : decode cX3_add 109 = .ok (.invokevirtual 73, 3) := by decide +kernel
theorem dX3_add_112 : decode cX3_add 112 = .ok (.iload_n 3, 1) := by decide +kernel
theorem dX3_add_113 : decode cX3_add 113 = .ok (.iconst 1, 1) := by decide +kernel
theorem dX3_add_114 : decode cX3_add 114 = .ok (.if_icmp .ne 15, 3) := by decide +kernel
theorem dX3_add_117 : decode cX3_add 117 = .ok (.aload_n 0, 1) := by decide +kernel
theorem dX3_add_118 : decode cX3_add 118 = .ok (.getfield 50, 3) := by decide +kernel
theorem dX3_add_121 : decode cX3_add 121 = .ok (.bipush 9, 2) := by decide +kernel
theorem dX3_add_123 : decode cX3_add 123 = .ok (.iload 6, 2) := by decide +kernel
theorem dX3_add_125 : decode cX3_add 125 = .ok (.invokevirtual 73, 3) := by decide +kernel
theorem dX3_add_128 : decode cX3_add 128 = .ok (.return_, 1) := by decide +kernel
theorem dX3_add_129 : decode cX3_add 129 = .ok (.aload_n 0, 1) := by decide +kernel
theorem dX3_add_130 : decode cX3_add 130 = .ok (.getfield 50, 3) := by decide +kernel
theorem dX3_add_133 : decode cX3_add 133 = .ok (.iload 4, 2) := by decide +kernel
theorem dX3_add_135 : decode cX3_add 135 = .ok (.iload 6, 2) := by decide +kernel
theorem dX3_add_137 : decode cX3_add 137 = .ok (.invokevirtual 73, 3) := by decide +kernel
theorem dX3_add_140 : decode cX3_add 140 = .ok (.iload_n 3, 1) := by decide +kernel
theorem dX3_add_141 : decode cX3_add 141 = .ok (.iconst 2, 1) := by decide +kernel
theorem dX3_add_142 : decode cX3_add 142 = .ok (.if_icmp .ne 18, 3) := by decide +kernel
theorem dX3_add_145 : decode cX3_add 145 = .ok (.aload_n 0, 1) := by decide +kernel
theorem dX3_add_146 : decode cX3_add 146 = .ok (.dup, 1) := by decide +kernel
theorem dX3_add_147 : decode cX3_add 147 = .ok (.getfield 57, 3) := by decide +kernel
theorem dX3_add_150 : decode cX3_add 150 = .ok (.iload 6, 2) := by decide +kernel
theorem dX3_add_152 : decode cX3_add 152 = .ok (.invokestatic 80, 3) := by decide +kernel
theorem dX3_add_155 : decode cX3_add 155 = .ok (.lor, 1) := by decide +kernel
theorem dX3_add_156 : decode cX3_add 156 = .ok (.putfield 57, 3) := by decide +kernel
theorem dX3_add_159 : decode cX3_add 159 = .ok (.return_, 1) := by decide +kernel
theorem dX3_add_160 : decode cX3_add 160 = .ok (.aload_n 0, 1) := by decide +kernel
theorem dX3_add_161 : decode cX3_add 161 = .ok (.dup, 1) := by decide +kernel
theorem dX3_add_162 : decode cX3_add 162 = .ok (.getfield 53, 3) := by decide +kernel
theorem dX3_add_165 : decode cX3_add 165 = .ok (.iload 6, 2) := by decide +kernel
theorem dX3_add_167 : decode cX3_add 167 = .ok (.invokestatic 80, 3) := by decide +kernel
theorem dX3_add_170 : decode cX3_add 170 = .ok (.lor, 1) := by decide +kernel
theorem dX3_add_171 : decode cX3_add 171 = .ok (.putfield 53, 3) := by decide +kernel
theorem dX3_add_174 : decode cX3_add 174 = .ok (.iload 5, 2) := by decide +kernel
theorem dX3_add_176 : decode cX3_add 176 = .ok (.iconst (-1), 1) := by decide +kernel
theorem dX3_add_177 : decode cX3_add 177 = .ok (.if_icmp .eq 8, 3) := by decide +kernel
theorem dX3_add_180 : decode cX3_add 180 = .ok (.iload 5, 2) := by decide +kernel
theorem dX3_add_182 : decode cX3_add 182 = .ok (.goto 20, 3) := by decide +kernel
theorem dX3_add_185 : decode cX3_add 185 = .ok (.iload_n 2, 1) := by decide +kernel
theorem dX3_add_186 : decode cX3_add 186 = .ok (.iconst (-1), 1) := by decide +kernel
theorem dX3_add_187 : decode cX3_add 187 = .ok (.if_icmp .eq 14, 3) := by decide +kernel
theorem dX3_add_190 : decode cX3_add 190 = .ok (.aload_n 0, 1) := by decide +kernel
theorem dX3_add_191 : decode cX3_add 191 = .ok (.getfield 29, 3) := by decide +kernel
theorem dX3_add_194 : decode cX3_add 194 = .ok (.iload_n 2, 1) := by decide +kernel
theorem dX3_add_195 : decode cX3_add 195 = .ok (.invokevirtual 88, 3) := by decide +kernel
theorem dX3_add_198 : decode cX3_add 198 = .ok (.goto 4, 3) := by decide +kernel
theorem dX3_add_201 : decode cX3_add 201 = .ok (.iconst 0, 1) := by decide +kernel
theorem dX3_add_202 : decode cX3_add 202 = .ok (.istore 7, 2) := by decide +kernel
theorem dX3_add_204 : decode cX3_add 204 = .ok (.aload_n 0, 1) := by decide +kernel
theorem dX3_add_205 : decode cX3_add 205 = .ok (.getfield 29, 3) := by decide +kernel
theorem dX3_add_208 : decode cX3_add 208 = .ok (.iload 6, 2) := by decide +kernel
theorem dX3_add_210 : decode cX3_add 210 = .ok (.iload 7, 2) := by decide +kernel
theorem dX3_add_212 : decode cX3_add 212 = .ok (.invokevirtual 70, 3) := by decide +kernel
theorem dX3_add_215 : decode cX3_add 215 = .ok (.aload_n 0, 1) := by decide +kernel
theorem dX3_add_216 : decode cX3_add 216 = .ok (.getfield 50, 3) := by decide +kernel
theorem dX3_add_219 : decode cX3_add 219 = .ok (.bipush 10, 2) := by decide +kernel
theorem dX3_add_221 : decode cX3_add 221 = .ok (.iload 7, 2) := by decide +kernel
theorem dX3_add_223 : decode cX3_add 223 = .ok (.iadd, 1) := by decide +kernel
theorem dX3_add_224 : decode cX3_add 224 = .ok (.iload 6, 2) := by decide +kernel
theorem dX3_add_226 : decode cX3_add 226 = .ok (.invokevirtual 73, 3) := by decide +kernel
theorem dX3_add_229 : decode cX3_add 229 = .ok (.return_, 1) := by decide +kernel
abbrev cX3_children : ByteArray := prog_5_method_18_code
def yX3_children : MethodName := ⟨RX3, "children", "(I)J"⟩
theorem dX3_children_0 : decode cX3_children 0 = .ok (.aload_n 0, 1) := by decide +kernel
theorem dX3_children_1 : decode cX3_children 1 = .ok (.getfield 37, 3) := by decide +kernel
theorem dX3_children_4 : decode cX3_children 4 = .ok (.iload_n 1, 1) := by decide +kernel
theorem dX3_children_5 : decode cX3_children 5 = .ok (.invokevirtual 76, 3) := by decide +kernel
theorem dX3_children_8 : decode cX3_children 8 = .ok (.aload_n 0, 1) := by decide +kernel
theorem dX3_children_9 : decode cX3_children 9 = .ok (.getfield 57, 3) := by decide +kernel
theorem dX3_children_12 : decode cX3_children 12 = .ok (.ldc2_w 99, 3) := by decide +kernel
theorem dX3_children_15 : decode cX3_children 15 = .ok (.lxor, 1) := by decide +kernel
theorem dX3_children_16 : decode cX3_children 16 = .ok (.land, 1) := by decide +kernel
theorem dX3_children_17 : decode cX3_children 17 = .ok (.lreturn, 1) := by decide +kernel
abbrev cX3_close : ByteArray := prog_5_method_4_code
def yX3_close : MethodName := ⟨RX3, "close", "()V"⟩
theorem dX3_close_0 : decode cX3_close 0 = .ok (.aload_n 0, 1) := by decide +kernel
theorem dX3_close_1 : decode cX3_close 1 = .ok (.getfield 60, 3) := by decide +kernel
theorem dX3_close_4 : decode cX3_close 4 = .ok (.iconst 1, 1) := by decide +kernel
theorem dX3_close_5 : decode cX3_close 5 = .ok (.isub, 1) := by decide +kernel
theorem dX3_close_6 : decode cX3_close 6 = .ok (.istore_n 1, 1) := by decide +kernel
theorem dX3_close_7 : decode cX3_close 7 = .ok (.iload_n 1, 1) := by decide +kernel
theorem dX3_close_8 : decode cX3_close 8 = .ok (.ifCond .lt 103, 3) := by decide +kernel
theorem dX3_close_11 : decode cX3_close 11 = .ok (.aload_n 0, 1) := by decide +kernel
theorem dX3_close_12 : decode cX3_close 12 = .ok (.getfield 23, 3) := by decide +kernel
theorem dX3_close_15 : decode cX3_close 15 = .ok (.iload_n 1, 1) := by decide +kernel
theorem dX3_close_16 : decode cX3_close 16 = .ok (.invokevirtual 88, 3) := by decide +kernel
theorem dX3_close_19 : decode cX3_close 19 = .ok (.istore_n 2, 1) := by decide +kernel
theorem dX3_close_20 : decode cX3_close 20 = .ok (.aload_n 0, 1) := by decide +kernel
theorem dX3_close_21 : decode cX3_close 21 = .ok (.getfield 26, 3) := by decide +kernel
theorem dX3_close_24 : decode cX3_close 24 = .ok (.iload_n 2, 1) := by decide +kernel
theorem dX3_close_25 : decode cX3_close 25 = .ok (.aload_n 0, 1) := by decide +kernel
theorem dX3_close_26 : decode cX3_close 26 = .ok (.getfield 26, 3) := by decide +kernel
theorem dX3_close_29 : decode cX3_close 29 = .ok (.iload_n 2, 1) := by decide +kernel
theorem dX3_close_30 : decode cX3_close 30 = .ok (.invokevirtual 88, 3) := by decide +kernel
theorem dX3_close_33 : decode cX3_close 33 = .ok (.aload_n 0, 1) := by decide +kernel
theorem dX3_close_34 : decode cX3_close 34 = .ok (.getfield 26, 3) := by decide +kernel
theorem dX3_close_37 : decode cX3_close 37 = .ok (.iload_n 1, 1) := by decide +kernel
theorem dX3_close_38 : decode cX3_close 38 = .ok (.invokevirtual 88, 3) := by decide +kernel
theorem dX3_close_41 : decode cX3_close 41 = .ok (.invokestatic 91, 3) := by decide +kernel
theorem dX3_close_44 : decode cX3_close 44 = .ok (.invokevirtual 70, 3) := by decide +kernel
theorem dX3_close_47 : decode cX3_close 47 = .ok (.aload_n 0, 1) := by decide +kernel
theorem dX3_close_48 : decode cX3_close 48 = .ok (.getfield 47, 3) := by decide +kernel
theorem dX3_close_51 : decode cX3_close 51 = .ok (.iload_n 1, 1) := by decide +kernel
theorem dX3_close_52 : decode cX3_close 52 = .ok (.aload_n 0, 1) := by decide +kernel
theorem dX3_close_53 : decode cX3_close 53 = .ok (.getfield 26, 3) := by decide +kernel
theorem dX3_close_56 : decode cX3_close 56 = .ok (.iload_n 1, 1) := by decide +kernel
theorem dX3_close_57 : decode cX3_close 57 = .ok (.invokevirtual 88, 3) := by decide +kernel
theorem dX3_close_60 : decode cX3_close 60 = .ok (.invokestatic 97, 3) := by decide +kernel
theorem dX3_close_63 : decode cX3_close 63 = .ok (.iload_n 1, 1) := by decide +kernel
theorem dX3_close_64 : decode cX3_close 64 = .ok (.iconst 1, 1) := by decide +kernel
theorem dX3_close_65 : decode cX3_close 65 = .ok (.iadd, 1) := by decide +kernel
theorem dX3_close_66 : decode cX3_close 66 = .ok (.invokestatic 97, 3) := by decide +kernel
theorem dX3_close_69 : decode cX3_close 69 = .ok (.ldc2_w 99, 3) := by decide +kernel
theorem dX3_close_72 : decode cX3_close 72 = .ok (.lxor, 1) := by decide +kernel
theorem dX3_close_73 : decode cX3_close 73 = .ok (.land, 1) := by decide +kernel
theorem dX3_close_74 : decode cX3_close 74 = .ok (.invokevirtual 85, 3) := by decide +kernel
theorem dX3_close_77 : decode cX3_close 77 = .ok (.aload_n 0, 1) := by decide +kernel
theorem dX3_close_78 : decode cX3_close 78 = .ok (.getfield 41, 3) := by decide +kernel
theorem dX3_close_81 : decode cX3_close 81 = .ok (.iload_n 1, 1) := by decide +kernel
theorem dX3_close_82 : decode cX3_close 82 = .ok (.aload_n 0, 1) := by decide +kernel
theorem dX3_close_83 : decode cX3_close 83 = .ok (.getfield 57, 3) := by decide +kernel
theorem dX3_close_86 : decode cX3_close 86 = .ok (.iload_n 1, 1) := by decide +kernel
theorem dX3_close_87 : decode cX3_close 87 = .ok (.invokestatic 101, 3) := by decide +kernel
theorem dX3_close_90 : decode cX3_close 90 = .ok (.ifCond .eq 7, 3) := by decide +kernel
theorem dX3_close_93 : decode cX3_close 93 = .ok (.lconst 0, 1) := by decide +kernel
theorem dX3_close_94 : decode cX3_close 94 = .ok (.goto 8, 3) := by decide +kernel
theorem dX3_close_97 : decode cX3_close 97 = .ok (.aload_n 0, 1) := by decide +kernel
theorem dX3_close_98 : decode cX3_close 98 = .ok (.iload_n 2, 1) := by decide +kernel
theorem dX3_close_99 : decode cX3_close 99 = .ok (.invokevirtual 105, 3) := by decide +kernel
theorem dX3_close_102 : decode cX3_close 102 = .ok (.invokevirtual 85, 3) := by decide +kernel
theorem dX3_close_105 : decode cX3_close 105 = .ok (.iinc 1 (-1), 3) := by decide +kernel
theorem dX3_close_108 : decode cX3_close 108 = .ok (.goto (-101), 3) := by decide +kernel
theorem dX3_close_111 : decode cX3_close 111 = .ok (.return_, 1) := by decide +kernel
abbrev cX3_holds : ByteArray := prog_5_method_6_code
def yX3_holds : MethodName := ⟨RX3, "holds", "(I)Z"⟩
theorem dX3_holds_0 : decode cX3_holds 0 = .ok (.aload_n 0, 1) := by decide +kernel
theorem dX3_holds_1 : decode cX3_holds 1 = .ok (.getfield 20, 3) := by decide +kernel
theorem dX3_holds_4 : decode cX3_holds 4 = .ok (.iload_n 1, 1) := by decide +kernel
theorem dX3_holds_5 : decode cX3_holds 5 = .ok (.invokevirtual 88, 3) := by decide +kernel
theorem dX3_holds_8 : decode cX3_holds 8 = .ok (.iconst (-1), 1) := by decide +kernel
theorem dX3_holds_9 : decode cX3_holds 9 = .ok (.if_icmp .eq 7, 3) := by decide +kernel
theorem dX3_holds_12 : decode cX3_holds 12 = .ok (.iconst 1, 1) := by decide +kernel
theorem dX3_holds_13 : decode cX3_holds 13 = .ok (.goto 4, 3) := by decide +kernel
theorem dX3_holds_16 : decode cX3_holds 16 = .ok (.iconst 0, 1) := by decide +kernel
theorem dX3_holds_17 : decode cX3_holds 17 = .ok (.ireturn, 1) := by decide +kernel
abbrev cX3_spotOf : ByteArray := prog_5_method_7_code
def yX3_spotOf : MethodName := ⟨RX3, "spotOf", "(I)I"⟩
theorem dX3_spotOf_0 : decode cX3_spotOf 0 = .ok (.aload_n 0, 1) := by decide +kernel
theorem dX3_spotOf_1 : decode cX3_spotOf 1 = .ok (.getfield 20, 3) := by decide +kernel
theorem dX3_spotOf_4 : decode cX3_spotOf 4 = .ok (.iload_n 1, 1) := by decide +kernel
theorem dX3_spotOf_5 : decode cX3_spotOf 5 = .ok (.invokevirtual 88, 3) := by decide +kernel
theorem dX3_spotOf_8 : decode cX3_spotOf 8 = .ok (.ireturn, 1) := by decide +kernel
abbrev cX3_spaceAt : ByteArray := prog_5_method_13_code
def yX3_spaceAt : MethodName := ⟨RX3, "spaceAt", "(I)I"⟩
theorem dX3_spaceAt_0 : decode cX3_spaceAt 0 = .ok (.aload_n 0, 1) := by decide +kernel
theorem dX3_spaceAt_1 : decode cX3_spaceAt 1 = .ok (.getfield 29, 3) := by decide +kernel
theorem dX3_spaceAt_4 : decode cX3_spaceAt 4 = .ok (.iload_n 1, 1) := by decide +kernel
theorem dX3_spaceAt_5 : decode cX3_spaceAt 5 = .ok (.invokevirtual 88, 3) := by decide +kernel
theorem dX3_spaceAt_8 : decode cX3_spaceAt 8 = .ok (.ireturn, 1) := by decide +kernel
abbrev cX3_everything : ByteArray := prog_5_method_14_code
def yX3_everything : MethodName := ⟨RX3, "everything", "()J"⟩
theorem dX3_everything_0 : decode cX3_everything 0 = .ok (.aload_n 0, 1) := by decide +kernel
theorem dX3_everything_1 : decode cX3_everything 1 = .ok (.getfield 60, 3) := by decide +kernel
theorem dX3_everything_4 : decode cX3_everything 4 = .ok (.invokestatic 97, 3) := by decide +kernel
theorem dX3_everything_7 : decode cX3_everything 7 = .ok (.lreturn, 1) := by decide +kernel
abbrev cX3_solids : ByteArray := prog_5_method_16_code
def yX3_solids : MethodName := ⟨RX3, "solids", "()J"⟩
theorem dX3_solids_0 : decode cX3_solids 0 = .ok (.aload_n 0, 1) := by decide +kernel
theorem dX3_solids_1 : decode cX3_solids 1 = .ok (.getfield 60, 3) := by decide +kernel
theorem dX3_solids_4 : decode cX3_solids 4 = .ok (.invokestatic 97, 3) := by decide +kernel
theorem dX3_solids_7 : decode cX3_solids 7 = .ok (.aload_n 0, 1) := by decide +kernel
theorem dX3_solids_8 : decode cX3_solids 8 = .ok (.getfield 57, 3) := by decide +kernel
theorem dX3_solids_11 : decode cX3_solids 11 = .ok (.ldc2_w 99, 3) := by decide +kernel
theorem dX3_solids_14 : decode cX3_solids 14 = .ok (.lxor, 1) := by decide +kernel
theorem dX3_solids_15 : decode cX3_solids 15 = .ok (.land, 1) := by decide +kernel
theorem dX3_solids_16 : decode cX3_solids 16 = .ok (.lreturn, 1) := by decide +kernel
abbrev cX3_attributesOf : ByteArray := prog_5_method_19_code
def yX3_attributesOf : MethodName := ⟨RX3, "attributesOf", "(I)J"⟩
theorem dX3_attributesOf_0 : decode cX3_attributesOf 0 = .ok (.aload_n 0, 1) := by decide +kernel
theorem dX3_attributesOf_1 : decode cX3_attributesOf 1 = .ok (.getfield 37, 3) := by decide +kernel
theorem dX3_attributesOf_4 : decode cX3_attributesOf 4 = .ok (.iload_n 1, 1) := by decide +kernel
theorem dX3_attributesOf_5 : decode cX3_attributesOf 5 = .ok (.invokevirtual 76, 3) := by decide +kernel
theorem dX3_attributesOf_8 : decode cX3_attributesOf 8 = .ok (.aload_n 0, 1) := by decide +kernel
theorem dX3_attributesOf_9 : decode cX3_attributesOf 9 = .ok (.getfield 57, 3) := by decide +kernel
theorem dX3_attributesOf_12 : decode cX3_attributesOf 12 = .ok (.land, 1) := by decide +kernel
theorem dX3_attributesOf_13 : decode cX3_attributesOf 13 = .ok (.lreturn, 1) := by decide +kernel
abbrev cX3_childCount : ByteArray := prog_5_method_20_code
def yX3_childCount : MethodName := ⟨RX3, "childCount", "(I)I"⟩
theorem dX3_childCount_0 : decode cX3_childCount 0 = .ok (.aload_n 0, 1) := by decide +kernel
theorem dX3_childCount_1 : decode cX3_childCount 1 = .ok (.aload_n 0, 1) := by decide +kernel
theorem dX3_childCount_2 : decode cX3_childCount 2 = .ok (.getfield 20, 3) := by decide +kernel
theorem dX3_childCount_5 : decode cX3_childCount 5 = .ok (.iload_n 1, 1) := by decide +kernel
theorem dX3_childCount_6 : decode cX3_childCount 6 = .ok (.invokevirtual 88, 3) := by decide +kernel
theorem dX3_childCount_9 : decode cX3_childCount 9 = .ok (.invokevirtual 105, 3) := by decide +kernel
theorem dX3_childCount_12 : decode cX3_childCount 12 = .ok (.invokestatic 112, 3) := by decide +kernel
theorem dX3_childCount_15 : decode cX3_childCount 15 = .ok (.ireturn, 1) := by decide +kernel
abbrev cX3_spread : ByteArray := prog_5_method_22_code
def yX3_spread : MethodName := ⟨RX3, "spread", "(J)J"⟩
theorem dX3_spread_0 : decode cX3_spread 0 = .ok (.lload_n 1, 1) := by decide +kernel
theorem dX3_spread_1 : decode cX3_spread 1 = .ok (.lstore_n 3, 1) := by decide +kernel
theorem dX3_spread_2 : decode cX3_spread 2 = .ok (.iconst 0, 1) := by decide +kernel
theorem dX3_spread_3 : decode cX3_spread 3 = .ok (.istore 5, 2) := by decide +kernel
theorem dX3_spread_5 : decode cX3_spread 5 = .ok (.iload 5, 2) := by decide +kernel
theorem dX3_spread_7 : decode cX3_spread 7 = .ok (.aload_n 0, 1) := by decide +kernel
theorem dX3_spread_8 : decode cX3_spread 8 = .ok (.getfield 60, 3) := by decide +kernel
theorem dX3_spread_11 : decode cX3_spread 11 = .ok (.if_icmp .ge 30, 3) := by decide +kernel
theorem dX3_spread_14 : decode cX3_spread 14 = .ok (.lload_n 1, 1) := by decide +kernel
theorem dX3_spread_15 : decode cX3_spread 15 = .ok (.iload 5, 2) := by decide +kernel
theorem dX3_spread_17 : decode cX3_spread 17 = .ok (.invokestatic 101, 3) := by decide +kernel
theorem dX3_spread_20 : decode cX3_spread 20 = .ok (.ifCond .eq 15, 3) := by decide +kernel
theorem dX3_spread_23 : decode cX3_spread 23 = .ok (.lload_n 3, 1) := by decide +kernel
theorem dX3_spread_24 : decode cX3_spread 24 = .ok (.aload_n 0, 1) := by decide +kernel
theorem dX3_spread_25 : decode cX3_spread 25 = .ok (.getfield 47, 3) := by decide +kernel
theorem dX3_spread_28 : decode cX3_spread 28 = .ok (.iload 5, 2) := by decide +kernel
theorem dX3_spread_30 : decode cX3_spread 30 = .ok (.invokevirtual 76, 3) := by decide +kernel
theorem dX3_spread_33 : decode cX3_spread 33 = .ok (.lor, 1) := by decide +kernel
theorem dX3_spread_34 : decode cX3_spread 34 = .ok (.lstore_n 3, 1) := by decide +kernel
theorem dX3_spread_35 : decode cX3_spread 35 = .ok (.iinc 5 1, 3) := by decide +kernel
theorem dX3_spread_38 : decode cX3_spread 38 = .ok (.goto (-33), 3) := by decide +kernel
theorem dX3_spread_41 : decode cX3_spread 41 = .ok (.lload_n 3, 1) := by decide +kernel
theorem dX3_spread_42 : decode cX3_spread 42 = .ok (.lreturn, 1) := by decide +kernel
abbrev cX3_nodesOf : ByteArray := prog_5_method_23_code
def yX3_nodesOf : MethodName := ⟨RX3, "nodesOf", "(J)J"⟩
theorem dX3_nodesOf_0 : decode cX3_nodesOf 0 = .ok (.lconst 0, 1) := by decide +kernel
theorem dX3_nodesOf_1 : decode cX3_nodesOf 1 = .ok (.lstore_n 3, 1) := by decide +kernel
theorem dX3_nodesOf_2 : decode cX3_nodesOf 2 = .ok (.iconst 0, 1) := by decide +kernel
theorem dX3_nodesOf_3 : decode cX3_nodesOf 3 = .ok (.istore 5, 2) := by decide +kernel
theorem dX3_nodesOf_5 : decode cX3_nodesOf 5 = .ok (.iload 5, 2) := by decide +kernel
theorem dX3_nodesOf_7 : decode cX3_nodesOf 7 = .ok (.aload_n 0, 1) := by decide +kernel
theorem dX3_nodesOf_8 : decode cX3_nodesOf 8 = .ok (.getfield 60, 3) := by decide +kernel
theorem dX3_nodesOf_11 : decode cX3_nodesOf 11 = .ok (.if_icmp .ge 33, 3) := by decide +kernel
theorem dX3_nodesOf_14 : decode cX3_nodesOf 14 = .ok (.lload_n 1, 1) := by decide +kernel
theorem dX3_nodesOf_15 : decode cX3_nodesOf 15 = .ok (.iload 5, 2) := by decide +kernel
theorem dX3_nodesOf_17 : decode cX3_nodesOf 17 = .ok (.invokestatic 101, 3) := by decide +kernel
theorem dX3_nodesOf_20 : decode cX3_nodesOf 20 = .ok (.ifCond .eq 18, 3) := by decide +kernel
theorem dX3_nodesOf_23 : decode cX3_nodesOf 23 = .ok (.lload_n 3, 1) := by decide +kernel
theorem dX3_nodesOf_24 : decode cX3_nodesOf 24 = .ok (.aload_n 0, 1) := by decide +kernel
theorem dX3_nodesOf_25 : decode cX3_nodesOf 25 = .ok (.getfield 14, 3) := by decide +kernel
theorem dX3_nodesOf_28 : decode cX3_nodesOf 28 = .ok (.iload 5, 2) := by decide +kernel
theorem dX3_nodesOf_30 : decode cX3_nodesOf 30 = .ok (.invokevirtual 88, 3) := by decide +kernel
theorem dX3_nodesOf_33 : decode cX3_nodesOf 33 = .ok (.invokestatic 80, 3) := by decide +kernel
theorem dX3_nodesOf_36 : decode cX3_nodesOf 36 = .ok (.lor, 1) := by decide +kernel
theorem dX3_nodesOf_37 : decode cX3_nodesOf 37 = .ok (.lstore_n 3, 1) := by decide +kernel
theorem dX3_nodesOf_38 : decode cX3_nodesOf 38 = .ok (.iinc 5 1, 3) := by decide +kernel
theorem dX3_nodesOf_41 : decode cX3_nodesOf 41 = .ok (.goto (-36), 3) := by decide +kernel
theorem dX3_nodesOf_44 : decode cX3_nodesOf 44 = .ok (.lload_n 3, 1) := by decide +kernel
theorem dX3_nodesOf_45 : decode cX3_nodesOf 45 = .ok (.lreturn, 1) := by decide +kernel
abbrev cX3_spotsOf : ByteArray := prog_5_method_24_code
def yX3_spotsOf : MethodName := ⟨RX3, "spotsOf", "(J)J"⟩
theorem dX3_spotsOf_0 : decode cX3_spotsOf 0 = .ok (.lconst 0, 1) := by decide +kernel
theorem dX3_spotsOf_1 : decode cX3_spotsOf 1 = .ok (.lstore_n 3, 1) := by decide +kernel
theorem dX3_spotsOf_2 : decode cX3_spotsOf 2 = .ok (.iconst 0, 1) := by decide +kernel
theorem dX3_spotsOf_3 : decode cX3_spotsOf 3 = .ok (.istore 5, 2) := by decide +kernel
theorem dX3_spotsOf_5 : decode cX3_spotsOf 5 = .ok (.iload 5, 2) := by decide +kernel
theorem dX3_spotsOf_7 : decode cX3_spotsOf 7 = .ok (.aload_n 0, 1) := by decide +kernel
theorem dX3_spotsOf_8 : decode cX3_spotsOf 8 = .ok (.getfield 60, 3) := by decide +kernel
theorem dX3_spotsOf_11 : decode cX3_spotsOf 11 = .ok (.if_icmp .ge 33, 3) := by decide +kernel
theorem dX3_spotsOf_14 : decode cX3_spotsOf 14 = .ok (.lload_n 1, 1) := by decide +kernel
theorem dX3_spotsOf_15 : decode cX3_spotsOf 15 = .ok (.aload_n 0, 1) := by decide +kernel
theorem dX3_spotsOf_16 : decode cX3_spotsOf 16 = .ok (.getfield 14, 3) := by decide +kernel
theorem dX3_spotsOf_19 : decode cX3_spotsOf 19 = .ok (.iload 5, 2) := by decide +kernel
theorem dX3_spotsOf_21 : decode cX3_spotsOf 21 = .ok (.invokevirtual 88, 3) := by decide +kernel
theorem dX3_spotsOf_24 : decode cX3_spotsOf 24 = .ok (.invokestatic 101, 3) := by decide +kernel
theorem dX3_spotsOf_27 : decode cX3_spotsOf 27 = .ok (.ifCond .eq 11, 3) := by decide +kernel
theorem dX3_spotsOf_30 : decode cX3_spotsOf 30 = .ok (.lload_n 3, 1) := by decide +kernel
theorem dX3_spotsOf_31 : decode cX3_spotsOf 31 = .ok (.iload 5, 2) := by decide +kernel
theorem dX3_spotsOf_33 : decode cX3_spotsOf 33 = .ok (.invokestatic 80, 3) := by decide +kernel
theorem dX3_spotsOf_36 : decode cX3_spotsOf 36 = .ok (.lor, 1) := by decide +kernel
theorem dX3_spotsOf_37 : decode cX3_spotsOf 37 = .ok (.lstore_n 3, 1) := by decide +kernel
theorem dX3_spotsOf_38 : decode cX3_spotsOf 38 = .ok (.iinc 5 1, 3) := by decide +kernel
theorem dX3_spotsOf_41 : decode cX3_spotsOf 41 = .ok (.goto (-36), 3) := by decide +kernel
theorem dX3_spotsOf_44 : decode cX3_spotsOf 44 = .ok (.lload_n 3, 1) := by decide +kernel
theorem dX3_spotsOf_45 : decode cX3_spotsOf 45 = .ok (.lreturn, 1) := by decide +kernel
abbrev cX4_init : ByteArray := prog_6_method_1_code
def yX4_init : MethodName := ⟨RX4, "<init>", "()V"⟩
theorem dX4_init_0 : decode cX4_init 0 = .ok (.aload_n 0, 1) := by decide +kernel
theorem dX4_init_1 : decode cX4_init 1 = .ok (.invokespecial 3, 3) := by decide +kernel
theorem dX4_init_4 : decode cX4_init 4 = .ok (.aload_n 0, 1) := by decide +kernel
theorem dX4_init_5 : decode cX4_init 5 = .ok (.new 9, 3) := by decide +kernel
theorem dX4_init_8 : decode cX4_init 8 = .ok (.dup, 1) := by decide +kernel
theorem dX4_init_9 : decode cX4_init 9 = .ok (.bipush 20, 2) := by decide +kernel
theorem dX4_init_11 : decode cX4_init 11 = .ok (.iconst 0, 1) := by decide +kernel
theorem dX4_init_12 : decode cX4_init 12 = .ok (.invokespecial 11, 3) := by decide +kernel
theorem dX4_init_15 : decode cX4_init 15 = .ok (.putfield 14, 3) := by decide +kernel
theorem dX4_init_18 : decode cX4_init 18 = .ok (.aload_n 0, 1) := by decide +kernel
theorem dX4_init_19 : decode cX4_init 19 = .ok (.new 9, 3) := by decide +kernel
theorem dX4_init_22 : decode cX4_init 22 = .ok (.dup, 1) := by decide +kernel
theorem dX4_init_23 : decode cX4_init 23 = .ok (.bipush 100, 2) := by decide +kernel
theorem dX4_init_25 : decode cX4_init 25 = .ok (.iconst (-1), 1) := by decide +kernel
theorem dX4_init_26 : decode cX4_init 26 = .ok (.invokespecial 11, 3) := by decide +kernel
theorem dX4_init_29 : decode cX4_init 29 = .ok (.putfield 20, 3) := by decide +kernel
theorem dX4_init_32 : decode cX4_init 32 = .ok (.aload_n 0, 1) := by decide +kernel
theorem dX4_init_33 : decode cX4_init 33 = .ok (.new 9, 3) := by decide +kernel
theorem dX4_init_36 : decode cX4_init 36 = .ok (.dup, 1) := by decide +kernel
theorem dX4_init_37 : decode cX4_init 37 = .ok (.bipush 100, 2) := by decide +kernel
theorem dX4_init_39 : decode cX4_init 39 = .ok (.iconst (-1), 1) := by decide +kernel
theorem dX4_init_40 : decode cX4_init 40 = .ok (.invokespecial 11, 3) := by decide +kernel
theorem dX4_init_43 : decode cX4_init 43 = .ok (.putfield 23, 3) := by decide +kernel
theorem dX4_init_46 : decode cX4_init 46 = .ok (.aload_n 0, 1) := by decide +kernel
theorem dX4_init_47 : decode cX4_init 47 = .ok (.new 9, 3) := by decide +kernel
theorem dX4_init_50 : decode cX4_init 50 = .ok (.dup, 1) := by decide +kernel
theorem dX4_init_51 : decode cX4_init 51 = .ok (.bipush 100, 2) := by decide +kernel
theorem dX4_init_53 : decode cX4_init 53 = .ok (.iconst (-1), 1) := by decide +kernel
theorem dX4_init_54 : decode cX4_init 54 = .ok (.invokespecial 11, 3) := by decide +kernel
theorem dX4_init_57 : decode cX4_init 57 = .ok (.putfield 26, 3) := by decide +kernel
theorem dX4_init_60 : decode cX4_init 60 = .ok (.aload_n 0, 1) := by decide +kernel
theorem dX4_init_61 : decode cX4_init 61 = .ok (.new 9, 3) := by decide +kernel
theorem dX4_init_64 : decode cX4_init 64 = .ok (.dup, 1) := by decide +kernel
theorem dX4_init_65 : decode cX4_init 65 = .ok (.bipush 100, 2) := by decide +kernel
theorem dX4_init_67 : decode cX4_init 67 = .ok (.iconst 0, 1) := by decide +kernel
theorem dX4_init_68 : decode cX4_init 68 = .ok (.invokespecial 11, 3) := by decide +kernel
theorem dX4_init_71 : decode cX4_init 71 = .ok (.putfield 29, 3) := by decide +kernel
theorem dX4_init_74 : decode cX4_init 74 = .ok (.aload_n 0, 1) := by decide +kernel
theorem dX4_init_75 : decode cX4_init 75 = .ok (.new 9, 3) := by decide +kernel
theorem dX4_init_78 : decode cX4_init 78 = .ok (.dup, 1) := by decide +kernel
theorem dX4_init_79 : decode cX4_init 79 = .ok (.sipush 200, 3) := by decide +kernel
theorem dX4_init_82 : decode cX4_init 82 = .ok (.iconst (-1), 1) := by decide +kernel
theorem dX4_init_83 : decode cX4_init 83 = .ok (.invokespecial 11, 3) := by decide +kernel
theorem dX4_init_86 : decode cX4_init 86 = .ok (.putfield 32, 3) := by decide +kernel
theorem dX4_init_89 : decode cX4_init 89 = .ok (.aload_n 0, 1) := by decide +kernel
theorem dX4_init_90 : decode cX4_init 90 = .ok (.new 9, 3) := by decide +kernel
theorem dX4_init_93 : decode cX4_init 93 = .ok (.dup, 1) := by decide +kernel
theorem dX4_init_94 : decode cX4_init 94 = .ok (.sipush 200, 3) := by decide +kernel
theorem dX4_init_97 : decode cX4_init 97 = .ok (.iconst (-1), 1) := by decide +kernel
theorem dX4_init_98 : decode cX4_init 98 = .ok (.invokespecial 11, 3) := by decide +kernel
theorem dX4_init_101 : decode cX4_init 101 = .ok (.putfield 35, 3) := by decide +kernel
theorem dX4_init_104 : decode cX4_init 104 = .ok (.aload_n 0, 1) := by decide +kernel
theorem dX4_init_105 : decode cX4_init 105 = .ok (.new 9, 3) := by decide +kernel
theorem dX4_init_108 : decode cX4_init 108 = .ok (.dup, 1) := by decide +kernel
theorem dX4_init_109 : decode cX4_init 109 = .ok (.sipush 200, 3) := by decide +kernel
theorem dX4_init_112 : decode cX4_init 112 = .ok (.iconst (-1), 1) := by decide +kernel
theorem dX4_init_113 : decode cX4_init 113 = .ok (.invokespecial 11, 3) := by decide +kernel
theorem dX4_init_116 : decode cX4_init 116 = .ok (.putfield 38, 3) := by decide +kernel
theorem dX4_init_119 : decode cX4_init 119 = .ok (.aload_n 0, 1) := by decide +kernel
theorem dX4_init_120 : decode cX4_init 120 = .ok (.new 9, 3) := by decide +kernel
theorem dX4_init_123 : decode cX4_init 123 = .ok (.dup, 1) := by decide +kernel
theorem dX4_init_124 : decode cX4_init 124 = .ok (.sipush 200, 3) := by decide +kernel
theorem dX4_init_127 : decode cX4_init 127 = .ok (.iconst (-1), 1) := by decide +kernel
theorem dX4_init_128 : decode cX4_init 128 = .ok (.invokespecial 11, 3) := by decide +kernel
theorem dX4_init_131 : decode cX4_init 131 = .ok (.putfield 41, 3) := by decide +kernel
theorem dX4_init_134 : decode cX4_init 134 = .ok (.aload_n 0, 1) := by decide +kernel
theorem dX4_init_135 : decode cX4_init 135 = .ok (.iconst 0, 1) := by decide +kernel
theorem dX4_init_136 : decode cX4_init 136 = .ok (.putfield 44, 3) := by decide +kernel
theorem dX4_init_139 : decode cX4_init 139 = .ok (.return_, 1) := by decide +kernel
abbrev cX4_count : ByteArray := prog_6_method_2_code
def yX4_count : MethodName := ⟨RX4, "count", "()I"⟩
theorem dX4_count_0 : decode cX4_count 0 = .ok (.aload_n 0, 1) := by decide +kernel
theorem dX4_count_1 : decode cX4_count 1 = .ok (.getfield 44, 3) := by decide +kernel
theorem dX4_count_4 : decode cX4_count 4 = .ok (.ireturn, 1) := by decide +kernel
abbrev cX4_addPath : ByteArray := prog_6_method_3_code
def yX4_addPath : MethodName := ⟨RX4, "addPath", "()I"⟩
theorem dX4_addPath_0 : decode cX4_addPath 0 = .ok (.aload_n 0, 1) := by decide +kernel
theorem dX4_addPath_1 : decode cX4_addPath 1 = .ok (.dup, 1) := by decide +kernel
theorem dX4_addPath_2 : decode cX4_addPath 2 = .ok (.getfield 44, 3) := by decide +kernel
theorem dX4_addPath_5 : decode cX4_addPath 5 = .ok (.iconst 1, 1) := by decide +kernel
theorem dX4_addPath_6 : decode cX4_addPath 6 = .ok (.iadd, 1) := by decide +kernel
theorem dX4_addPath_7 : decode cX4_addPath 7 = .ok (.putfield 44, 3) := by decide +kernel
theorem dX4_addPath_10 : decode cX4_addPath 10 = .ok (.aload_n 0, 1) := by decide +kernel
theorem dX4_addPath_11 : decode cX4_addPath 11 = .ok (.getfield 44, 3) := by decide +kernel
theorem dX4_addPath_14 : decode cX4_addPath 14 = .ok (.iconst 1, 1) := by decide +kernel
theorem dX4_addPath_15 : decode cX4_addPath 15 = .ok (.isub, 1) := by decide +kernel
theorem dX4_addPath_16 : decode cX4_addPath 16 = .ok (.ireturn, 1) := by decide +kernel
abbrev cX4_addStep : ByteArray := prog_6_method_4_code
def yX4_addStep : MethodName := ⟨RX4, "addStep", "(IIII)I"⟩
theorem dX4_addStep_0 : decode cX4_addStep 0 = .ok (.aload_n 0, 1) := by decide +kernel
theorem dX4_addStep_1 : decode cX4_addStep 1 = .ok (.getfield 14, 3) := by decide +kernel
theorem dX4_addStep_4 : decode cX4_addStep 4 = .ok (.iload_n 1, 1) := by decide +kernel
theorem dX4_addStep_5 : decode cX4_addStep 5 = .ok (.invokevirtual 48, 3) := by decide +kernel
theorem dX4_addStep_8 : decode cX4_addStep 8 = .ok (.istore 5, 2) := by decide +kernel
theorem dX4_addStep_10 : decode cX4_addStep 10 = .ok (.aload_n 0, 1) := by decide +kernel
theorem dX4_addStep_11 : decode cX4_addStep 11 = .ok (.iload_n 1, 1) := by decide +kernel
theorem dX4_addStep_12 : decode cX4_addStep 12 = .ok (.iload 5, 2) := by decide +kernel
theorem dX4_addStep_14 : decode cX4_addStep 14 = .ok (.invokevirtual 52, 3) := by decide +kernel
theorem dX4_addStep_17 : decode cX4_addStep 17 = .ok (.istore 6, 2) := by decide +kernel
theorem dX4_addStep_19 : decode cX4_addStep 19 = .ok (.aload_n 0, 1) := by decide +kernel
theorem dX4_addStep_20 : decode cX4_addStep 20 = .ok (.getfield 20, 3) := by decide +kernel
theorem dX4_addStep_23 : decode cX4_addStep 23 = .ok (.iload 6, 2) := by decide +kernel
theorem dX4_addStep_25 : decode cX4_addStep 25 = .ok (.iload_n 2, 1) := by decide +kernel
theorem dX4_addStep_26 : decode cX4_addStep 26 = .ok (.invokevirtual 56, 3) := by decide +kernel
theorem dX4_addStep_29 : decode cX4_addStep 29 = .ok (.aload_n 0, 1) := by decide +kernel
theorem dX4_addStep_30 : decode cX4_addStep 30 = .ok (.getfield 23, 3) := by decide +kernel
theorem dX4_addStep_33 : decode cX4_addStep 33 = .ok (.iload 6, 2) := by decide +kernel
theorem dX4_addStep_35 : decode cX4_addStep 35 = .ok (.iload_n 3, 1) := by decide +kernel
theorem dX4_addStep_36 : decode cX4_addStep 36 = .ok (.invokevirtual 56, 3) := by decide +kernel
theorem dX4_addStep_39 : decode cX4_addStep 39 = .ok (.aload_n 0, 1) := by decide +kernel
theorem dX4_addStep_40 : decode cX4_addStep 40 = .ok (.getfield 26, 3) := by decide +kernel
theorem dX4_addStep_43 : decode cX4_addStep 43 = .ok (.iload 6, 2) := by decide +kernel
theorem dX4_addStep_45 : decode cX4_addStep 45 = .ok (.iload 4, 2) := by decide +kernel
theorem dX4_addStep_47 : decode cX4_addStep 47 = .ok (.invokevirtual 56, 3) := by decide +kernel
theorem dX4_addStep_50 : decode cX4_addStep 50 = .ok (.aload_n 0, 1) := by decide +kernel
theorem dX4_addStep_51 : decode cX4_addStep 51 = .ok (.getfield 14, 3) := by decide +kernel
theorem dX4_addStep_54 : decode cX4_addStep 54 = .ok (.iload_n 1, 1) := by decide +kernel
theorem dX4_addStep_55 : decode cX4_addStep 55 = .ok (.iload 5, 2) := by decide +kernel
theorem dX4_addStep_57 : decode cX4_addStep 57 = .ok (.iconst 1, 1) := by decide +kernel
theorem dX4_addStep_58 : decode cX4_addStep 58 = .ok (.iadd, 1) := by decide +kernel
theorem dX4_addStep_59 : decode cX4_addStep 59 = .ok (.invokevirtual 56, 3) := by decide +kernel
theorem dX4_addStep_62 : decode cX4_addStep 62 = .ok (.iload 5, 2) := by decide +kernel
theorem dX4_addStep_64 : decode cX4_addStep 64 = .ok (.iconst 1, 1) := by decide +kernel
theorem dX4_addStep_65 : decode cX4_addStep 65 = .ok (.iadd, 1) := by decide +kernel
theorem dX4_addStep_66 : decode cX4_addStep 66 = .ok (.ireturn, 1) := by decide +kernel
abbrev cX4_addCondition : ByteArray := prog_6_method_5_code
def yX4_addCondition : MethodName := ⟨RX4, "addCondition", "(IIIII)I"⟩
theorem dX4_addCondition_0 : decode cX4_addCondition 0 = .ok (.aload_n 0, 1) := by decide +kernel
theorem dX4_addCondition_1 : decode cX4_addCondition 1 = .ok (.iload_n 1, 1) := by decide +kernel
theorem dX4_addCondition_2 : decode cX4_addCondition 2 = .ok (.aload_n 0, 1) := by decide +kernel
theorem dX4_addCondition_3 : decode cX4_addCondition 3 = .ok (.getfield 14, 3) := by decide +kernel
theorem dX4_addCondition_6 : decode cX4_addCondition 6 = .ok (.iload_n 1, 1) := by decide +kernel
theorem dX4_addCondition_7 : decode cX4_addCondition 7 = .ok (.invokevirtual 48, 3) := by decide +kernel
theorem dX4_addCondition_10 : decode cX4_addCondition 10 = .ok (.iconst 1, 1) := by decide +kernel
theorem dX4_addCondition_11 : decode cX4_addCondition 11 = .ok (.isub, 1) := by decide +kernel
theorem dX4_addCondition_12 : decode cX4_addCondition 12 = .ok (.invokevirtual 52, 3) := by decide +kernel
theorem dX4_addCondition_15 : decode cX4_addCondition 15 = .ok (.istore 6, 2) := by decide +kernel
theorem dX4_addCondition_17 : decode cX4_addCondition 17 = .ok (.aload_n 0, 1) := by decide +kernel
theorem dX4_addCondition_18 : decode cX4_addCondition 18 = .ok (.getfield 29, 3) := by decide +kernel
theorem dX4_addCondition_21 : decode cX4_addCondition 21 = .ok (.iload 6, 2) := by decide +kernel
theorem dX4_addCondition_23 : decode cX4_addCondition 23 = .ok (.invokevirtual 48, 3) := by decide +kernel
theorem dX4_addCondition_26 : decode cX4_addCondition 26 = .ok (.istore 7, 2) := by decide +kernel
theorem dX4_addCondition_28 : decode cX4_addCondition 28 = .ok (.aload_n 0, 1) := by decide +kernel
theorem dX4_addCondition_29 : decode cX4_addCondition 29 = .ok (.iload 6, 2) := by decide +kernel
theorem dX4_addCondition_31 : decode cX4_addCondition 31 = .ok (.iload 7, 2) := by decide +kernel
theorem dX4_addCondition_33 : decode cX4_addCondition 33 = .ok (.invokevirtual 59, 3) := by decide +kernel
theorem dX4_addCondition_36 : decode cX4_addCondition 36 = .ok (.istore 8, 2) := by decide +kernel
theorem dX4_addCondition_38 : decode cX4_addCondition 38 = .ok (.aload_n 0, 1) := by decide +kernel
theorem dX4_addCondition_39 : decode cX4_addCondition 39 = .ok (.getfield 32, 3) := by decide +kernel
theorem dX4_addCondition_42 : decode cX4_addCondition 42 = .ok (.iload 8, 2) := by decide +kernel
theorem dX4_addCondition_44 : decode cX4_addCondition 44 = .ok (.iload_n 2, 1) := by decide +kernel
theorem dX4_addCondition_45 : decode cX4_addCondition 45 = .ok (.invokevirtual 56, 3) := by decide +kernel
theorem dX4_addCondition_48 : decode cX4_addCondition 48 = .ok (.aload_n 0, 1) := by decide +kernel
theorem dX4_addCondition_49 : decode cX4_addCondition 49 = .ok (.getfield 35, 3) := by decide +kernel
theorem dX4_addCondition_52 : decode cX4_addCondition 52 = .ok (.iload 8, 2) := by decide +kernel
theorem dX4_addCondition_54 : decode cX4_addCondition 54 = .ok (.iload_n 3, 1) := by decide +kernel
theorem dX4_addCondition_55 : decode cX4_addCondition 55 = .ok (.invokevirtual 56, 3) := by decide +kernel
theorem dX4_addCondition_58 : decode cX4_addCondition 58 = .ok (.aload_n 0, 1) := by decide +kernel
theorem dX4_addCondition_59 : decode cX4_addCondition 59 = .ok (.getfield 38, 3) := by decide +kernel
theorem dX4_addCondition_62 : decode cX4_addCondition 62 = .ok (.iload 8, 2) := by decide +kernel
theorem dX4_addCondition_64 : decode cX4_addCondition 64 = .ok (.iload 4, 2) := by decide +kernel
theorem dX4_addCondition_66 : decode cX4_addCondition 66 = .ok (.invokevirtual 56, 3) := by decide +kernel
theorem dX4_addCondition_69 : decode cX4_addCondition 69 = .ok (.aload_n 0, 1) := by decide +kernel
theorem dX4_addCondition_70 : decode cX4_addCondition 70 = .ok (.getfield 41, 3) := by decide +kernel
theorem dX4_addCondition_73 : decode cX4_addCondition 73 = .ok (.iload 8, 2) := by decide +kernel
theorem dX4_addCondition_75 : decode cX4_addCondition 75 = .ok (.iload 5, 2) := by decide +kernel
theorem dX4_addCondition_77 : decode cX4_addCondition 77 = .ok (.invokevirtual 56, 3) := by decide +kernel
theorem dX4_addCondition_80 : decode cX4_addCondition 80 = .ok (.aload_n 0, 1) := by decide +kernel
theorem dX4_addCondition_81 : decode cX4_addCondition 81 = .ok (.getfield 29, 3) := by decide +kernel
theorem dX4_addCondition_84 : decode cX4_addCondition 84 = .ok (.iload 6, 2) := by decide +kernel
theorem dX4_addCondition_86 : decode cX4_addCondition 86 = .ok (.iload 7, 2) := by decide +kernel
theorem dX4_addCondition_88 : decode cX4_addCondition 88 = .ok (.iconst 1, 1) := by decide +kernel
theorem dX4_addCondition_89 : decode cX4_addCondition 89 = .ok (.iadd, 1) := by decide +kernel
theorem dX4_addCondition_90 : decode cX4_addCondition 90 = .ok (.invokevirtual 56, 3) := by decide +kernel
theorem dX4_addCondition_93 : decode cX4_addCondition 93 = .ok (.iload 7, 2) := by decide +kernel
theorem dX4_addCondition_95 : decode cX4_addCondition 95 = .ok (.iconst 1, 1) := by decide +kernel
theorem dX4_addCondition_96 : decode cX4_addCondition 96 = .ok (.iadd, 1) := by decide +kernel
theorem dX4_addCondition_97 : decode cX4_addCondition 97 = .ok (.ireturn, 1) := by decide +kernel
abbrev cX4_conditionsOfLast : ByteArray := prog_6_method_10_code
def yX4_conditionsOfLast : MethodName := ⟨RX4, "conditionsOfLast", "(I)I"⟩
theorem dX4_conditionsOfLast_0 : decode cX4_conditionsOfLast 0 = .ok (.aload_n 0, 1) := by decide +kernel
theorem dX4_conditionsOfLast_1 : decode cX4_conditionsOfLast 1 = .ok (.getfield 29, 3) := by decide +kernel
theorem dX4_conditionsOfLast_4 : decode cX4_conditionsOfLast 4 = .ok (.aload_n 0, 1) := by decide +kernel
theorem dX4_conditionsOfLast_5 : decode cX4_conditionsOfLast 5 = .ok (.iload_n 1, 1) := by decide +kernel
theorem dX4_conditionsOfLast_6 : decode cX4_conditionsOfLast 6 = .ok (.aload_n 0, 1) := by decide +kernel
theorem dX4_conditionsOfLast_7 : decode cX4_conditionsOfLast 7 = .ok (.getfield 14, 3) := by decide +kernel
theorem dX4_conditionsOfLast_10 : decode cX4_conditionsOfLast 10 = .ok (.iload_n 1, 1) := by decide +kernel
theorem dX4_conditionsOfLast_11 : decode cX4_conditionsOfLast 11 = .ok (.invokevirtual 48, 3) := by decide +kernel
theorem dX4_conditionsOfLast_14 : decode cX4_conditionsOfLast 14 = .ok (.iconst 1, 1) := by decide +kernel
theorem dX4_conditionsOfLast_15 : decode cX4_conditionsOfLast 15 = .ok (.isub, 1) := by decide +kernel
theorem dX4_conditionsOfLast_16 : decode cX4_conditionsOfLast 16 = .ok (.invokevirtual 52, 3) := by decide +kernel
theorem dX4_conditionsOfLast_19 : decode cX4_conditionsOfLast 19 = .ok (.invokevirtual 48, 3) := by decide +kernel
theorem dX4_conditionsOfLast_22 : decode cX4_conditionsOfLast 22 = .ok (.ireturn, 1) := by decide +kernel
abbrev cX4_nameBelow : ByteArray := prog_6_method_18_code
def yX4_nameBelow : MethodName := ⟨RX4, "nameBelow", "(I)I"⟩
theorem dX4_nameBelow_0 : decode cX4_nameBelow 0 = .ok (.aload_n 0, 1) := by decide +kernel
theorem dX4_nameBelow_1 : decode cX4_nameBelow 1 = .ok (.iload_n 1, 1) := by decide +kernel
theorem dX4_nameBelow_2 : decode cX4_nameBelow 2 = .ok (.iconst 0, 1) := by decide +kernel
theorem dX4_nameBelow_3 : decode cX4_nameBelow 3 = .ok (.invokevirtual 52, 3) := by decide +kernel
theorem dX4_nameBelow_6 : decode cX4_nameBelow 6 = .ok (.istore_n 2, 1) := by decide +kernel
theorem dX4_nameBelow_7 : decode cX4_nameBelow 7 = .ok (.aload_n 0, 1) := by decide +kernel
theorem dX4_nameBelow_8 : decode cX4_nameBelow 8 = .ok (.getfield 14, 3) := by decide +kernel
theorem dX4_nameBelow_11 : decode cX4_nameBelow 11 = .ok (.iload_n 1, 1) := by decide +kernel
theorem dX4_nameBelow_12 : decode cX4_nameBelow 12 = .ok (.invokevirtual 48, 3) := by decide +kernel
theorem dX4_nameBelow_15 : decode cX4_nameBelow 15 = .ok (.ifCond .le 32, 3) := by decide +kernel
theorem dX4_nameBelow_18 : decode cX4_nameBelow 18 = .ok (.aload_n 0, 1) := by decide +kernel
theorem dX4_nameBelow_19 : decode cX4_nameBelow 19 = .ok (.getfield 20, 3) := by decide +kernel
theorem dX4_nameBelow_22 : decode cX4_nameBelow 22 = .ok (.iload_n 2, 1) := by decide +kernel
theorem dX4_nameBelow_23 : decode cX4_nameBelow 23 = .ok (.invokevirtual 48, 3) := by decide +kernel
theorem dX4_nameBelow_26 : decode cX4_nameBelow 26 = .ok (.iconst 3, 1) := by decide +kernel
theorem dX4_nameBelow_27 : decode cX4_nameBelow 27 = .ok (.if_icmp .ne 20, 3) := by decide +kernel
theorem dX4_nameBelow_30 : decode cX4_nameBelow 30 = .ok (.aload_n 0, 1) := by decide +kernel
theorem dX4_nameBelow_31 : decode cX4_nameBelow 31 = .ok (.getfield 23, 3) := by decide +kernel
theorem dX4_nameBelow_34 : decode cX4_nameBelow 34 = .ok (.iload_n 2, 1) := by decide +kernel
theorem dX4_nameBelow_35 : decode cX4_nameBelow 35 = .ok (.invokevirtual 48, 3) := by decide +kernel
theorem dX4_nameBelow_38 : decode cX4_nameBelow 38 = .ok (.bipush 8, 2) := by decide +kernel
theorem dX4_nameBelow_40 : decode cX4_nameBelow 40 = .ok (.if_icmp .ge 7, 3) := by decide +kernel
theorem dX4_nameBelow_43 : decode cX4_nameBelow 43 = .ok (.iconst 1, 1) := by decide +kernel
theorem dX4_nameBelow_44 : decode cX4_nameBelow 44 = .ok (.goto 4, 3) := by decide +kernel
theorem dX4_nameBelow_47 : decode cX4_nameBelow 47 = .ok (.iconst 0, 1) := by decide +kernel
theorem dX4_nameBelow_48 : decode cX4_nameBelow 48 = .ok (.istore_n 3, 1) := by decide +kernel
theorem dX4_nameBelow_49 : decode cX4_nameBelow 49 = .ok (.iload_n 3, 1) := by decide +kernel
theorem dX4_nameBelow_50 : decode cX4_nameBelow 50 = .ok (.ifCond .eq 14, 3) := by decide +kernel
theorem dX4_nameBelow_53 : decode cX4_nameBelow 53 = .ok (.aload_n 0, 1) := by decide +kernel
theorem dX4_nameBelow_54 : decode cX4_nameBelow 54 = .ok (.getfield 23, 3) := by decide +kernel
theorem dX4_nameBelow_57 : decode cX4_nameBelow 57 = .ok (.iload_n 2, 1) := by decide +kernel
theorem dX4_nameBelow_58 : decode cX4_nameBelow 58 = .ok (.invokevirtual 48, 3) := by decide +kernel
theorem dX4_nameBelow_61 : decode cX4_nameBelow 61 = .ok (.goto 4, 3) := by decide +kernel
theorem dX4_nameBelow_64 : decode cX4_nameBelow 64 = .ok (.iconst (-1), 1) := by decide +kernel
theorem dX4_nameBelow_65 : decode cX4_nameBelow 65 = .ok (.ireturn, 1) := by decide +kernel
abbrev cX4_goesDown : ByteArray := prog_6_method_20_code
def yX4_goesDown : MethodName := ⟨RX4, "goesDown", "(I)Z"⟩
theorem dX4_goesDown_0 : decode cX4_goesDown 0 = .ok (.iload_n 0, 1) := by decide +kernel
theorem dX4_goesDown_1 : decode cX4_goesDown 1 = .ok (.ifCond .eq 24, 3) := by decide +kernel
theorem dX4_goesDown_4 : decode cX4_goesDown 4 = .ok (.iload_n 0, 1) := by decide +kernel
theorem dX4_goesDown_5 : decode cX4_goesDown 5 = .ok (.iconst 1, 1) := by decide +kernel
theorem dX4_goesDown_6 : decode cX4_goesDown 6 = .ok (.if_icmp .eq 19, 3) := by decide +kernel
theorem dX4_goesDown_9 : decode cX4_goesDown 9 = .ok (.iload_n 0, 1) := by decide +kernel
theorem dX4_goesDown_10 : decode cX4_goesDown 10 = .ok (.iconst 3, 1) := by decide +kernel
theorem dX4_goesDown_11 : decode cX4_goesDown 11 = .ok (.if_icmp .eq 14, 3) := by decide +kernel
theorem dX4_goesDown_14 : decode cX4_goesDown 14 = .ok (.iload_n 0, 1) := by decide +kernel
theorem dX4_goesDown_15 : decode cX4_goesDown 15 = .ok (.iconst 4, 1) := by decide +kernel
theorem dX4_goesDown_16 : decode cX4_goesDown 16 = .ok (.if_icmp .eq 9, 3) := by decide +kernel
theorem dX4_goesDown_19 : decode cX4_goesDown 19 = .ok (.iload_n 0, 1) := by decide +kernel
theorem dX4_goesDown_20 : decode cX4_goesDown 20 = .ok (.bipush 11, 2) := by decide +kernel
theorem dX4_goesDown_22 : decode cX4_goesDown 22 = .ok (.if_icmp .ne 7, 3) := by decide +kernel
theorem dX4_goesDown_25 : decode cX4_goesDown 25 = .ok (.iconst 1, 1) := by decide +kernel
theorem dX4_goesDown_26 : decode cX4_goesDown 26 = .ok (.goto 4, 3) := by decide +kernel
theorem dX4_goesDown_29 : decode cX4_goesDown 29 = .ok (.iconst 0, 1) := by decide +kernel
theorem dX4_goesDown_30 : decode cX4_goesDown 30 = .ok (.ireturn, 1) := by decide +kernel
abbrev cX4_staysAtNode : ByteArray := prog_6_method_22_code
def yX4_staysAtNode : MethodName := ⟨RX4, "staysAtNode", "(I)Z"⟩
theorem dX4_staysAtNode_0 : decode cX4_staysAtNode 0 = .ok (.iconst 0, 1) := by decide +kernel
theorem dX4_staysAtNode_1 : decode cX4_staysAtNode 1 = .ok (.istore_n 2, 1) := by decide +kernel
theorem dX4_staysAtNode_2 : decode cX4_staysAtNode 2 = .ok (.iload_n 2, 1) := by decide +kernel
theorem dX4_staysAtNode_3 : decode cX4_staysAtNode 3 = .ok (.aload_n 0, 1) := by decide +kernel
theorem dX4_staysAtNode_4 : decode cX4_staysAtNode 4 = .ok (.getfield 14, 3) := by decide +kernel
theorem dX4_staysAtNode_7 : decode cX4_staysAtNode 7 = .ok (.iload_n 1, 1) := by decide +kernel
theorem dX4_staysAtNode_8 : decode cX4_staysAtNode 8 = .ok (.invokevirtual 48, 3) := by decide +kernel
theorem dX4_staysAtNode_11 : decode cX4_staysAtNode 11 = .ok (.if_icmp .ge 65, 3) := by decide +kernel
theorem dX4_staysAtNode_14 : decode cX4_staysAtNode 14 = .ok (.aload_n 0, 1) := by decide +kernel
theorem dX4_staysAtNode_15 : decode cX4_staysAtNode 15 = .ok (.iload_n 1, 1) := by decide +kernel
theorem dX4_staysAtNode_16 : decode cX4_staysAtNode 16 = .ok (.iload_n 2, 1) := by decide +kernel
theorem dX4_staysAtNode_17 : decode cX4_staysAtNode 17 = .ok (.invokevirtual 52, 3) := by decide +kernel
theorem dX4_staysAtNode_20 : decode cX4_staysAtNode 20 = .ok (.istore_n 3, 1) := by decide +kernel
theorem dX4_staysAtNode_21 : decode cX4_staysAtNode 21 = .ok (.aload_n 0, 1) := by decide +kernel
theorem dX4_staysAtNode_22 : decode cX4_staysAtNode 22 = .ok (.getfield 20, 3) := by decide +kernel
theorem dX4_staysAtNode_25 : decode cX4_staysAtNode 25 = .ok (.iload_n 3, 1) := by decide +kernel
theorem dX4_staysAtNode_26 : decode cX4_staysAtNode 26 = .ok (.invokevirtual 48, 3) := by decide +kernel
theorem dX4_staysAtNode_29 : decode cX4_staysAtNode 29 = .ok (.ifCond .eq 16, 3) := by decide +kernel
theorem dX4_staysAtNode_32 : decode cX4_staysAtNode 32 = .ok (.aload_n 0, 1) := by decide +kernel
theorem dX4_staysAtNode_33 : decode cX4_staysAtNode 33 = .ok (.getfield 20, 3) := by decide +kernel
theorem dX4_staysAtNode_36 : decode cX4_staysAtNode 36 = .ok (.iload_n 3, 1) := by decide +kernel
theorem dX4_staysAtNode_37 : decode cX4_staysAtNode 37 = .ok (.invokevirtual 48, 3) := by decide +kernel
theorem dX4_staysAtNode_40 : decode cX4_staysAtNode 40 = .ok (.bipush 11, 2) := by decide +kernel
theorem dX4_staysAtNode_42 : decode cX4_staysAtNode 42 = .ok (.if_icmp .ne 7, 3) := by decide +kernel
theorem dX4_staysAtNode_45 : decode cX4_staysAtNode 45 = .ok (.iconst 1, 1) := by decide +kernel
theorem dX4_staysAtNode_46 : decode cX4_staysAtNode 46 = .ok (.goto 4, 3) := by decide +kernel
theorem dX4_staysAtNode_49 : decode cX4_staysAtNode 49 = .ok (.iconst 0, 1) := by decide +kernel
theorem dX4_staysAtNode_50 : decode cX4_staysAtNode 50 = .ok (.istore 4, 2) := by decide +kernel
theorem dX4_staysAtNode_52 : decode cX4_staysAtNode 52 = .ok (.iload 4, 2) := by decide +kernel
theorem dX4_staysAtNode_54 : decode cX4_staysAtNode 54 = .ok (.ifCond .eq 14, 3) := by decide +kernel
theorem dX4_staysAtNode_57 : decode cX4_staysAtNode 57 = .ok (.aload_n 0, 1) := by decide +kernel
theorem dX4_staysAtNode_58 : decode cX4_staysAtNode 58 = .ok (.getfield 29, 3) := by decide +kernel
theorem dX4_staysAtNode_61 : decode cX4_staysAtNode 61 = .ok (.iload_n 3, 1) := by decide +kernel
theorem dX4_staysAtNode_62 : decode cX4_staysAtNode 62 = .ok (.invokevirtual 48, 3) := by decide +kernel
theorem dX4_staysAtNode_65 : decode cX4_staysAtNode 65 = .ok (.ifCond .le 5, 3) := by decide +kernel
theorem dX4_staysAtNode_68 : decode cX4_staysAtNode 68 = .ok (.iconst 0, 1) := by decide +kernel
theorem dX4_staysAtNode_69 : decode cX4_staysAtNode 69 = .ok (.ireturn, 1) := by decide +kernel
theorem dX4_staysAtNode_70 : decode cX4_staysAtNode 70 = .ok (.iinc 2 1, 3) := by decide +kernel
theorem dX4_staysAtNode_73 : decode cX4_staysAtNode 73 = .ok (.goto (-71), 3) := by decide +kernel
theorem dX4_staysAtNode_76 : decode cX4_staysAtNode 76 = .ok (.iconst 1, 1) := by decide +kernel
theorem dX4_staysAtNode_77 : decode cX4_staysAtNode 77 = .ok (.ireturn, 1) := by decide +kernel
abbrev cX4_isTellableAtOnce : ByteArray := prog_6_method_21_code
def yX4_isTellableAtOnce : MethodName := ⟨RX4, "isTellableAtOnce", "(I)Z"⟩
theorem dX4_isTellableAtOnce_0 : decode cX4_isTellableAtOnce 0 = .ok (.aload_n 0, 1) := by decide +kernel
theorem dX4_isTellableAtOnce_1 : decode cX4_isTellableAtOnce 1 = .ok (.getfield 32, 3) := by decide +kernel
theorem dX4_isTellableAtOnce_4 : decode cX4_isTellableAtOnce 4 = .ok (.iload_n 1, 1) := by decide +kernel
theorem dX4_isTellableAtOnce_5 : decode cX4_isTellableAtOnce 5 = .ok (.invokevirtual 48, 3) := by decide +kernel
theorem dX4_isTellableAtOnce_8 : decode cX4_isTellableAtOnce 8 = .ok (.istore_n 2, 1) := by decide +kernel
theorem dX4_isTellableAtOnce_9 : decode cX4_isTellableAtOnce 9 = .ok (.iload_n 2, 1) := by decide +kernel
theorem dX4_isTellableAtOnce_10 : decode cX4_isTellableAtOnce 10 = .ok (.ifCond .ne 21, 3) := by decide +kernel
theorem dX4_isTellableAtOnce_13 : decode cX4_isTellableAtOnce 13 = .ok (.aload_n 0, 1) := by decide +kernel
theorem dX4_isTellableAtOnce_14 : decode cX4_isTellableAtOnce 14 = .ok (.getfield 38, 3) := by decide +kernel
theorem dX4_isTellableAtOnce_17 : decode cX4_isTellableAtOnce 17 = .ok (.iload_n 1, 1) := by decide +kernel
theorem dX4_isTellableAtOnce_18 : decode cX4_isTellableAtOnce 18 = .ok (.invokevirtual 48, 3) := by decide +kernel
theorem dX4_isTellableAtOnce_21 : decode cX4_isTellableAtOnce 21 = .ok (.iconst 2, 1) := by decide +kernel
theorem dX4_isTellableAtOnce_22 : decode cX4_isTellableAtOnce 22 = .ok (.if_icmp .eq 7, 3) := by decide +kernel
theorem dX4_isTellableAtOnce_25 : decode cX4_isTellableAtOnce 25 = .ok (.iconst 1, 1) := by decide +kernel
theorem dX4_isTellableAtOnce_26 : decode cX4_isTellableAtOnce 26 = .ok (.goto 4, 3) := by decide +kernel
theorem dX4_isTellableAtOnce_29 : decode cX4_isTellableAtOnce 29 = .ok (.iconst 0, 1) := by decide +kernel
theorem dX4_isTellableAtOnce_30 : decode cX4_isTellableAtOnce 30 = .ok (.ireturn, 1) := by decide +kernel
theorem dX4_isTellableAtOnce_31 : decode cX4_isTellableAtOnce 31 = .ok (.iload_n 2, 1) := by decide +kernel
theorem dX4_isTellableAtOnce_32 : decode cX4_isTellableAtOnce 32 = .ok (.iconst 1, 1) := by decide +kernel
theorem dX4_isTellableAtOnce_33 : decode cX4_isTellableAtOnce 33 = .ok (.if_icmp .eq 22, 3) := by decide +kernel
theorem dX4_isTellableAtOnce_36 : decode cX4_isTellableAtOnce 36 = .ok (.aload_n 0, 1) := by decide +kernel
theorem dX4_isTellableAtOnce_37 : decode cX4_isTellableAtOnce 37 = .ok (.aload_n 0, 1) := by decide +kernel
theorem dX4_isTellableAtOnce_38 : decode cX4_isTellableAtOnce 38 = .ok (.getfield 35, 3) := by decide +kernel
theorem dX4_isTellableAtOnce_41 : decode cX4_isTellableAtOnce 41 = .ok (.iload_n 1, 1) := by decide +kernel
theorem dX4_isTellableAtOnce_42 : decode cX4_isTellableAtOnce 42 = .ok (.invokevirtual 48, 3) := by decide +kernel
theorem dX4_isTellableAtOnce_45 : decode cX4_isTellableAtOnce 45 = .ok (.invokevirtual 69, 3) := by decide +kernel
theorem dX4_isTellableAtOnce_48 : decode cX4_isTellableAtOnce 48 = .ok (.ifCond .eq 7, 3) := by decide +kernel
theorem dX4_isTellableAtOnce_51 : decode cX4_isTellableAtOnce 51 = .ok (.iconst 1, 1) := by decide +kernel
theorem dX4_isTellableAtOnce_52 : decode cX4_isTellableAtOnce 52 = .ok (.goto 4, 3) := by decide +kernel
theorem dX4_isTellableAtOnce_55 : decode cX4_isTellableAtOnce 55 = .ok (.iconst 0, 1) := by decide +kernel
theorem dX4_isTellableAtOnce_56 : decode cX4_isTellableAtOnce 56 = .ok (.ireturn, 1) := by decide +kernel
abbrev cX4_canStream : ByteArray := prog_6_method_19_code
def yX4_canStream : MethodName := ⟨RX4, "canStream", "(I)Z"⟩
theorem dX4_canStream_0 : decode cX4_canStream 0 = .ok (.iconst 0, 1) := by decide +kernel
theorem dX4_canStream_1 : decode cX4_canStream 1 = .ok (.istore_n 2, 1) := by decide +kernel
theorem dX4_canStream_2 : decode cX4_canStream 2 = .ok (.iload_n 2, 1) := by decide +kernel
theorem dX4_canStream_3 : decode cX4_canStream 3 = .ok (.aload_n 0, 1) := by decide +kernel
theorem dX4_canStream_4 : decode cX4_canStream 4 = .ok (.getfield 14, 3) := by decide +kernel
theorem dX4_canStream_7 : decode cX4_canStream 7 = .ok (.iload_n 1, 1) := by decide +kernel
theorem dX4_canStream_8 : decode cX4_canStream 8 = .ok (.invokevirtual 48, 3) := by decide +kernel
theorem dX4_canStream_11 : decode cX4_canStream 11 = .ok (.if_icmp .ge 70, 3) := by decide +kernel
theorem dX4_canStream_14 : decode cX4_canStream 14 = .ok (.aload_n 0, 1) := by decide +kernel
theorem dX4_canStream_15 : decode cX4_canStream 15 = .ok (.iload_n 1, 1) := by decide +kernel
theorem dX4_canStream_16 : decode cX4_canStream 16 = .ok (.iload_n 2, 1) := by decide +kernel
theorem dX4_canStream_17 : decode cX4_canStream 17 = .ok (.invokevirtual 52, 3) := by decide +kernel
theorem dX4_canStream_20 : decode cX4_canStream 20 = .ok (.istore_n 3, 1) := by decide +kernel
theorem dX4_canStream_21 : decode cX4_canStream 21 = .ok (.aload_n 0, 1) := by decide +kernel
theorem dX4_canStream_22 : decode cX4_canStream 22 = .ok (.getfield 20, 3) := by decide +kernel
theorem dX4_canStream_25 : decode cX4_canStream 25 = .ok (.iload_n 3, 1) := by decide +kernel
theorem dX4_canStream_26 : decode cX4_canStream 26 = .ok (.invokevirtual 48, 3) := by decide +kernel
theorem dX4_canStream_29 : decode cX4_canStream 29 = .ok (.invokestatic 62, 3) := by decide +kernel
theorem dX4_canStream_32 : decode cX4_canStream 32 = .ok (.ifCond .ne 5, 3) := by decide +kernel
theorem dX4_canStream_35 : decode cX4_canStream 35 = .ok (.iconst 0, 1) := by decide +kernel
theorem dX4_canStream_36 : decode cX4_canStream 36 = .ok (.ireturn, 1) := by decide +kernel
theorem dX4_canStream_37 : decode cX4_canStream 37 = .ok (.iconst 0, 1) := by decide +kernel
theorem dX4_canStream_38 : decode cX4_canStream 38 = .ok (.istore 4, 2) := by decide +kernel
theorem dX4_canStream_40 : decode cX4_canStream 40 = .ok (.iload 4, 2) := by decide +kernel
theorem dX4_canStream_42 : decode cX4_canStream 42 = .ok (.aload_n 0, 1) := by decide +kernel
theorem dX4_canStream_43 : decode cX4_canStream 43 = .ok (.getfield 29, 3) := by decide +kernel
theorem dX4_canStream_46 : decode cX4_canStream 46 = .ok (.iload_n 3, 1) := by decide +kernel
theorem dX4_canStream_47 : decode cX4_canStream 47 = .ok (.invokevirtual 48, 3) := by decide +kernel
theorem dX4_canStream_50 : decode cX4_canStream 50 = .ok (.if_icmp .ge 25, 3) := by decide +kernel
theorem dX4_canStream_53 : decode cX4_canStream 53 = .ok (.aload_n 0, 1) := by decide +kernel
theorem dX4_canStream_54 : decode cX4_canStream 54 = .ok (.aload_n 0, 1) := by decide +kernel
theorem dX4_canStream_55 : decode cX4_canStream 55 = .ok (.iload_n 3, 1) := by decide +kernel
theorem dX4_canStream_56 : decode cX4_canStream 56 = .ok (.iload 4, 2) := by decide +kernel
theorem dX4_canStream_58 : decode cX4_canStream 58 = .ok (.invokevirtual 59, 3) := by decide +kernel
theorem dX4_canStream_61 : decode cX4_canStream 61 = .ok (.invokevirtual 66, 3) := by decide +kernel
theorem dX4_canStream_64 : decode cX4_canStream 64 = .ok (.ifCond .ne 5, 3) := by decide +kernel
theorem dX4_canStream_67 : decode cX4_canStream 67 = .ok (.iconst 0, 1) := by decide +kernel
theorem dX4_canStream_68 : decode cX4_canStream 68 = .ok (.ireturn, 1) := by decide +kernel
theorem dX4_canStream_69 : decode cX4_canStream 69 = .ok (.iinc 4 1, 3) := by decide +kernel
theorem dX4_canStream_72 : decode cX4_canStream 72 = .ok (.goto (-32), 3) := by decide +kernel
theorem dX4_canStream_75 : decode cX4_canStream 75 = .ok (.iinc 2 1, 3) := by decide +kernel
theorem dX4_canStream_78 : decode cX4_canStream 78 = .ok (.goto (-76), 3) := by decide +kernel
theorem dX4_canStream_81 : decode cX4_canStream 81 = .ok (.iconst 1, 1) := by decide +kernel
theorem dX4_canStream_82 : decode cX4_canStream 82 = .ok (.ireturn, 1) := by decide +kernel
theorem tk_RX3_60 : Cond.fieldLink RX3 60 RX3 (TX3 12).2.1 (TX3 12).2.2.1 ∈ tq_G := tq_g (i := 199) (by decide +kernel) rfl
theorem tk_RX3_44 : Cond.fieldLink RX3 44 RX3 (TX3 7).2.1 (TX3 7).2.2.1 ∈ tq_G := tq_g (i := 194) (by decide +kernel) rfl
theorem tk_RX3_76 : Cond.methodLink RX3 76 yX7_get ∈ tq_G := tq_g (i := 490) (by decide +kernel) rfl
theorem tk_RX3_112 : Cond.methodLink RX3 112 yJ13_bitCount_95d88 ∈ tq_G := tq_g (i := 819) (by decide +kernel) rfl
theorem tk_y_X7_get : tq_yok yX7_get cX7_get 2 (some .long) 1 := ⟨tq_g (i := 493) (by decide +kernel) rfl, tq_g (i := 125) (by decide +kernel) rfl, ⟨by decide +kernel, by decide +kernel⟩, by decide +kernel, by decide⟩
theorem tk_v_X7_get : tq_vok yX7_get := ⟨tq_g (i := 491) (by decide +kernel) rfl, tq_g (i := 492) (by decide +kernel) rfl⟩
theorem tk_RX3_26 : Cond.fieldLink RX3 26 RX3 (TX3 3).2.1 (TX3 3).2.2.1 ∈ tq_G := tq_g (i := 190) (by decide +kernel) rfl
theorem tk_RX3_88 : Cond.methodLink RX3 88 yX5_get ∈ tq_G := tq_g (i := 477) (by decide +kernel) rfl
theorem tk_y_X5_get : tq_yok yX5_get cX5_get 2 (some .int) 1 := ⟨tq_g (i := 472) (by decide +kernel) rfl, tq_g (i := 123) (by decide +kernel) rfl, ⟨by decide +kernel, by decide +kernel⟩, by decide +kernel, by decide⟩
theorem tk_v_X5_get : tq_vok yX5_get := ⟨tq_g (i := 470) (by decide +kernel) rfl, tq_g (i := 471) (by decide +kernel) rfl⟩
theorem tk_RX3_14 : Cond.fieldLink RX3 14 RX3 (TX3 0).2.1 (TX3 0).2.2.1 ∈ tq_G := tq_g (i := 187) (by decide +kernel) rfl
theorem tk_RX3_53 : Cond.fieldLink RX3 53 RX3 (TX3 10).2.1 (TX3 10).2.2.1 ∈ tq_G := tq_g (i := 197) (by decide +kernel) rfl
theorem tk_RX3_47 : Cond.fieldLink RX3 47 RX3 (TX3 8).2.1 (TX3 8).2.2.1 ∈ tq_G := tq_g (i := 195) (by decide +kernel) rfl
theorem tk_RX3_50 : Cond.fieldLink RX3 50 RX3 (TX3 9).2.1 (TX3 9).2.2.1 ∈ tq_G := tq_g (i := 196) (by decide +kernel) rfl
theorem tk_RX3_108 : Cond.methodLink RX3 108 yX0_memberAt ∈ tq_G := tq_g (i := 568) (by decide +kernel) rfl
theorem tk_y_X0_memberAt : tq_yok yX0_memberAt cX0_memberAt 6 (some .int) 2 := ⟨tq_g (i := 570) (by decide +kernel) rfl, tq_g (i := 130) (by decide +kernel) rfl, ⟨by decide +kernel, by decide +kernel⟩, by decide +kernel, by decide⟩
theorem tk_s_X0_memberAt : Cond.static yX0_memberAt ∈ tq_G := tq_g (i := 569) (by decide +kernel) rfl
theorem tk_RX4_14 : Cond.fieldLink RX4 14 RX4 (TX4 0).2.1 (TX4 0).2.2.1 ∈ tq_G := tq_g (i := 329) (by decide +kernel) rfl
theorem tk_RX4_48 : Cond.methodLink RX4 48 yX5_get ∈ tq_G := tq_g (i := 1070) (by decide +kernel) rfl
theorem tk_ki_5 : Int32.ofInt (5) = (5 : Int32) := by decide +kernel
theorem tk_RX4_20 : Cond.fieldLink RX4 20 RX4 (TX4 1).2.1 (TX4 1).2.2.1 ∈ tq_G := tq_g (i := 330) (by decide +kernel) rfl
theorem tk_RX4_26 : Cond.fieldLink RX4 26 RX4 (TX4 3).2.1 (TX4 3).2.2.1 ∈ tq_G := tq_g (i := 332) (by decide +kernel) rfl
theorem tk_RX4_23 : Cond.fieldLink RX4 23 RX4 (TX4 2).2.1 (TX4 2).2.2.1 ∈ tq_G := tq_g (i := 331) (by decide +kernel) rfl
theorem tk_RX3_80 : Cond.methodLink RX3 80 yX0_one ∈ tq_G := tq_g (i := 494) (by decide +kernel) rfl
theorem tk_RX3_37 : Cond.fieldLink RX3 37 RX3 (TX3 5).2.1 (TX3 5).2.2.1 ∈ tq_G := tq_g (i := 192) (by decide +kernel) rfl
theorem tk_RX3_57 : Cond.fieldLink RX3 57 RX3 (TX3 11).2.1 (TX3 11).2.2.1 ∈ tq_G := tq_g (i := 198) (by decide +kernel) rfl
theorem tk_RX3_99 : Cond.constantLong RX3 99 (-1) ∈ tq_G := tq_g (i := 514) (by decide +kernel) rfl
theorem tk_RX3_23 : Cond.fieldLink RX3 23 RX3 (TX3 2).2.1 (TX3 2).2.2.1 ∈ tq_G := tq_g (i := 189) (by decide +kernel) rfl
theorem tk_RX3_97 : Cond.methodLink RX3 97 yX0_below ∈ tq_G := tq_g (i := 510) (by decide +kernel) rfl
theorem tk_y_X0_below : tq_yok yX0_below cX0_below 1 (some .long) 1 := ⟨tq_g (i := 512) (by decide +kernel) rfl, tq_g (i := 130) (by decide +kernel) rfl, ⟨by decide +kernel, by decide +kernel⟩, by decide +kernel, by decide⟩
theorem tk_s_X0_below : Cond.static yX0_below ∈ tq_G := tq_g (i := 511) (by decide +kernel) rfl
theorem tk_RX3_41 : Cond.fieldLink RX3 41 RX3 (TX3 6).2.1 (TX3 6).2.2.1 ∈ tq_G := tq_g (i := 193) (by decide +kernel) rfl
theorem tk_RX4_29 : Cond.fieldLink RX4 29 RX4 (TX4 4).2.1 (TX4 4).2.2.1 ∈ tq_G := tq_g (i := 333) (by decide +kernel) rfl
theorem tk_RX4_32 : Cond.fieldLink RX4 32 RX4 (TX4 5).2.1 (TX4 5).2.2.1 ∈ tq_G := tq_g (i := 334) (by decide +kernel) rfl
theorem tk_RX4_38 : Cond.fieldLink RX4 38 RX4 (TX4 7).2.1 (TX4 7).2.2.1 ∈ tq_G := tq_g (i := 336) (by decide +kernel) rfl
theorem tk_RX4_41 : Cond.fieldLink RX4 41 RX4 (TX4 8).2.1 (TX4 8).2.2.1 ∈ tq_G := tq_g (i := 337) (by decide +kernel) rfl
theorem tk_RX4_35 : Cond.fieldLink RX4 35 RX4 (TX4 6).2.1 (TX4 6).2.2.1 ∈ tq_G := tq_g (i := 335) (by decide +kernel) rfl
theorem tk_RX3_3 : Cond.methodLink RX3 3 Lib.objectInit ∈ tq_G := tq_g (i := 161) (by decide +kernel) rfl
theorem tk_RX3_9 : Cond.classLink RX3 9 RX5 ∈ tq_G := tq_g (i := 162) (by decide +kernel) rfl
theorem tk_in5 : Cond.instantiable RX5 1 ∈ tq_G := tq_g (i := 163) (by decide +kernel) rfl
theorem tk_ini5 : Cond.initialized RX5 ∈ tq_G := tq_g (i := 123) (by decide +kernel) rfl
theorem tk_kb_60 : (Int8.ofInt (60)).toInt32 = (60 : Int32) := by decide +kernel
theorem tk_RX3_11 : Cond.methodLink RX3 11 yX5_init ∈ tq_G := tq_g (i := 164) (by decide +kernel) rfl
theorem tk_RX3_20 : Cond.fieldLink RX3 20 RX3 (TX3 1).2.1 (TX3 1).2.2.1 ∈ tq_G := tq_g (i := 188) (by decide +kernel) rfl
theorem tk_RX3_29 : Cond.fieldLink RX3 29 RX3 (TX3 4).2.1 (TX3 4).2.2.1 ∈ tq_G := tq_g (i := 191) (by decide +kernel) rfl
theorem tk_RX3_32 : Cond.classLink RX3 32 RX7 ∈ tq_G := tq_g (i := 176) (by decide +kernel) rfl
theorem tk_in7 : Cond.instantiable RX7 1 ∈ tq_G := tq_g (i := 177) (by decide +kernel) rfl
theorem tk_ini7 : Cond.initialized RX7 ∈ tq_G := tq_g (i := 125) (by decide +kernel) rfl
theorem tk_RX3_34 : Cond.methodLink RX3 34 yX7_init ∈ tq_G := tq_g (i := 178) (by decide +kernel) rfl
theorem tk_kb_14 : (Int8.ofInt (14)).toInt32 = (14 : Int32) := by decide +kernel
theorem tk_y_X7_init : tq_yok yX7_init cX7_init 2 none 1 := ⟨tq_g (i := 180) (by decide +kernel) rfl, tq_g (i := 125) (by decide +kernel) rfl, ⟨by decide +kernel, by decide +kernel⟩, by decide +kernel, by decide⟩
theorem tk_v_X7_init : Cond.instanceMethod yX7_init ∈ tq_G := tq_g (i := 179) (by decide +kernel) rfl
theorem tk_y_X5_init : tq_yok yX5_init cX5_init 3 none 2 := ⟨tq_g (i := 166) (by decide +kernel) rfl, tq_g (i := 123) (by decide +kernel) rfl, ⟨by decide +kernel, by decide +kernel⟩, by decide +kernel, by decide⟩
theorem tk_v_X5_init : Cond.instanceMethod yX5_init ∈ tq_G := tq_g (i := 165) (by decide +kernel) rfl
theorem tk_RX3_64 : Cond.methodLink RX3 64 yX5_setAll ∈ tq_G := tq_g (i := 458) (by decide +kernel) rfl
theorem tk_RX3_67 : Cond.methodLink RX3 67 yX7_emptyAll ∈ tq_G := tq_g (i := 462) (by decide +kernel) rfl
theorem tk_y_X7_emptyAll : tq_yok yX7_emptyAll cX7_emptyAll 1 none 0 := ⟨tq_g (i := 465) (by decide +kernel) rfl, tq_g (i := 125) (by decide +kernel) rfl, ⟨by decide +kernel, by decide +kernel⟩, by decide +kernel, by decide⟩
theorem tk_v_X7_emptyAll : tq_vok yX7_emptyAll := ⟨tq_g (i := 463) (by decide +kernel) rfl, tq_g (i := 464) (by decide +kernel) rfl⟩
theorem tk_y_X5_setAll : tq_yok yX5_setAll cX5_setAll 2 none 1 := ⟨tq_g (i := 461) (by decide +kernel) rfl, tq_g (i := 123) (by decide +kernel) rfl, ⟨by decide +kernel, by decide +kernel⟩, by decide +kernel, by decide⟩
theorem tk_v_X5_setAll : tq_vok yX5_setAll := ⟨tq_g (i := 459) (by decide +kernel) rfl, tq_g (i := 460) (by decide +kernel) rfl⟩
theorem tk_RX3_70 : Cond.methodLink RX3 70 yX5_set ∈ tq_G := tq_g (i := 482) (by decide +kernel) rfl
theorem tk_RX3_73 : Cond.methodLink RX3 73 yX7_add ∈ tq_G := tq_g (i := 483) (by decide +kernel) rfl
theorem tk_RX3_85 : Cond.methodLink RX3 85 yX7_set ∈ tq_G := tq_g (i := 495) (by decide +kernel) rfl
theorem tk_kb_10 : (Int8.ofInt (10)).toInt32 = (10 : Int32) := by decide +kernel
theorem tk_y_X7_add : tq_yok yX7_add cX7_add 3 none 2 := ⟨tq_g (i := 486) (by decide +kernel) rfl, tq_g (i := 125) (by decide +kernel) rfl, ⟨by decide +kernel, by decide +kernel⟩, by decide +kernel, by decide⟩
theorem tk_v_X7_add : tq_vok yX7_add := ⟨tq_g (i := 484) (by decide +kernel) rfl, tq_g (i := 485) (by decide +kernel) rfl⟩
theorem tk_y_X5_set : tq_yok yX5_set cX5_set 3 none 2 := ⟨tq_g (i := 449) (by decide +kernel) rfl, tq_g (i := 123) (by decide +kernel) rfl, ⟨by decide +kernel, by decide +kernel⟩, by decide +kernel, by decide⟩
theorem tk_v_X5_set : tq_vok yX5_set := ⟨tq_g (i := 447) (by decide +kernel) rfl, tq_g (i := 448) (by decide +kernel) rfl⟩
theorem tk_kb_9 : (Int8.ofInt (9)).toInt32 = (9 : Int32) := by decide +kernel
theorem tk_y_X7_set : tq_yok yX7_set cX7_set 4 none 2 := ⟨tq_g (i := 498) (by decide +kernel) rfl, tq_g (i := 125) (by decide +kernel) rfl, ⟨by decide +kernel, by decide +kernel⟩, by decide +kernel, by decide⟩
theorem tk_v_X7_set : tq_vok yX7_set := ⟨tq_g (i := 496) (by decide +kernel) rfl, tq_g (i := 497) (by decide +kernel) rfl⟩
theorem tk_RX3_91 : Cond.methodLink RX3 91 Lib.Math.max.name ∈ tq_G := tq_g (i := 507) (by decide +kernel) rfl
theorem tk_RX3_101 : Cond.methodLink RX3 101 yX0_holds ∈ tq_G := tq_g (i := 515) (by decide +kernel) rfl
theorem tk_RX3_105 : Cond.methodLink RX3 105 yX3_children ∈ tq_G := tq_g (i := 518) (by decide +kernel) rfl
theorem tk_y_X3_children : tq_yok yX3_children cX3_children 2 (some .long) 1 := ⟨tq_g (i := 521) (by decide +kernel) rfl, tq_g (i := 122) (by decide +kernel) rfl, ⟨by decide +kernel, by decide +kernel⟩, by decide +kernel, by decide⟩
theorem tk_v_X3_children : tq_vok yX3_children := ⟨tq_g (i := 519) (by decide +kernel) rfl, tq_g (i := 520) (by decide +kernel) rfl⟩
theorem tk_y_X0_holds : tq_yok yX0_holds cX0_holds 3 (some .boolean) 2 := ⟨tq_g (i := 517) (by decide +kernel) rfl, tq_g (i := 130) (by decide +kernel) rfl, ⟨by decide +kernel, by decide +kernel⟩, by decide +kernel, by decide⟩
theorem tk_s_X0_holds : Cond.static yX0_holds ∈ tq_G := tq_g (i := 516) (by decide +kernel) rfl
theorem tk_RX4_3 : Cond.methodLink RX4 3 Lib.objectInit ∈ tq_G := tq_g (i := 326) (by decide +kernel) rfl
theorem tk_RX4_9 : Cond.classLink RX4 9 RX5 ∈ tq_G := tq_g (i := 327) (by decide +kernel) rfl
theorem tk_kb_20 : (Int8.ofInt (20)).toInt32 = (20 : Int32) := by decide +kernel
theorem tk_RX4_11 : Cond.methodLink RX4 11 yX5_init ∈ tq_G := tq_g (i := 328) (by decide +kernel) rfl
theorem tk_kb_100 : (Int8.ofInt (100)).toInt32 = (100 : Int32) := by decide +kernel
theorem tk_ks_200 : (Int16.ofInt (200)).toInt32 = (200 : Int32) := by decide +kernel
theorem tk_RX4_44 : Cond.fieldLink RX4 44 RX4 (TX4 9).2.1 (TX4 9).2.2.1 ∈ tq_G := tq_g (i := 338) (by decide +kernel) rfl
theorem tk_RX4_52 : Cond.methodLink RX4 52 yX4_stepAt ∈ tq_G := tq_g (i := 1296) (by decide +kernel) rfl
theorem tk_RX4_56 : Cond.methodLink RX4 56 yX5_set ∈ tq_G := tq_g (i := 1297) (by decide +kernel) rfl
theorem tk_y_X4_stepAt : tq_yok yX4_stepAt cX4_stepAt 3 (some .int) 2 := ⟨tq_g (i := 1074) (by decide +kernel) rfl, tq_g (i := 127) (by decide +kernel) rfl, ⟨by decide +kernel, by decide +kernel⟩, by decide +kernel, by decide⟩
theorem tk_v_X4_stepAt : tq_vok yX4_stepAt := ⟨tq_g (i := 1072) (by decide +kernel) rfl, tq_g (i := 1073) (by decide +kernel) rfl⟩
theorem tk_RX4_59 : Cond.methodLink RX4 59 yX4_conditionAt ∈ tq_G := tq_g (i := 1319) (by decide +kernel) rfl
theorem tk_y_X4_conditionAt : tq_yok yX4_conditionAt cX4_conditionAt 3 (some .int) 2 := ⟨tq_g (i := 1118) (by decide +kernel) rfl, tq_g (i := 127) (by decide +kernel) rfl, ⟨by decide +kernel, by decide +kernel⟩, by decide +kernel, by decide⟩
theorem tk_v_X4_conditionAt : tq_vok yX4_conditionAt := ⟨tq_g (i := 1116) (by decide +kernel) rfl, tq_g (i := 1117) (by decide +kernel) rfl⟩
theorem tk_ki_3 : Int32.ofInt (3) = (3 : Int32) := by decide +kernel
theorem tk_kb_11 : (Int8.ofInt (11)).toInt32 = (11 : Int32) := by decide +kernel
theorem tk_RX4_69 : Cond.methodLink RX4 69 yX4_staysAtNode ∈ tq_G := tq_g (i := 1576) (by decide +kernel) rfl
theorem tk_y_X4_staysAtNode : tq_yok yX4_staysAtNode cX4_staysAtNode 5 (some .boolean) 1 := ⟨tq_g (i := 1579) (by decide +kernel) rfl, tq_g (i := 127) (by decide +kernel) rfl, ⟨by decide +kernel, by decide +kernel⟩, by decide +kernel, by decide⟩
theorem tk_v_X4_staysAtNode : tq_vok yX4_staysAtNode := ⟨tq_g (i := 1578) (by decide +kernel) rfl, tq_g (i := 45) (by decide +kernel) rfl⟩
theorem tk_RX4_62 : Cond.methodLink RX4 62 yX4_goesDown ∈ tq_G := tq_g (i := 1569) (by decide +kernel) rfl
theorem tk_RX4_66 : Cond.methodLink RX4 66 yX4_isTellableAtOnce ∈ tq_G := tq_g (i := 1572) (by decide +kernel) rfl
theorem tk_y_X4_isTellableAtOnce : tq_yok yX4_isTellableAtOnce cX4_isTellableAtOnce 3 (some .boolean) 1 := ⟨tq_g (i := 1575) (by decide +kernel) rfl, tq_g (i := 127) (by decide +kernel) rfl, ⟨by decide +kernel, by decide +kernel⟩, by decide +kernel, by decide⟩
theorem tk_v_X4_isTellableAtOnce : tq_vok yX4_isTellableAtOnce := ⟨tq_g (i := 1574) (by decide +kernel) rfl, tq_g (i := 44) (by decide +kernel) rfl⟩
theorem tk_y_X4_goesDown : tq_yok yX4_goesDown cX4_goesDown 1 (some .boolean) 1 := ⟨tq_g (i := 1571) (by decide +kernel) rfl, tq_g (i := 127) (by decide +kernel) rfl, ⟨by decide +kernel, by decide +kernel⟩, by decide +kernel, by decide⟩
theorem tk_s_X4_goesDown : Cond.static yX4_goesDown ∈ tq_G := tq_g (i := 1570) (by decide +kernel) rfl
abbrev mX3_count : tq_M := (RX3, cX3_count, 1, (some .int), false, [])
def f_X3_count (t : Nat) (h : tq_H) : Option (Int32) :=
  (tq_gi h t 3 12).bind fun x1 =>
  some x1
set_option maxHeartbeats 4000000 in
set_option maxRecDepth 20000 in
theorem w_X3_count {l : Launch} {d : Nat} (hd9 : 0 ≤ d) {t : Nat} {h : tq_H} {o : Int32} {Q : tq_R → tq_H → Prop} (hf : f_X3_count t h = some o) (hQ : ∀ r h9, r = .inl (some (.int o)) ∧ h = h9 → Q r h9) : tq_C l yX3_count cX3_count 1 (some .int) d 0 0 [.ref t] h Q := by
  refine tq_body (y := yX3_count) false (by decide +kernel) (fun z => by cases z) (Nat.le_of_ble_eq_true rfl) ?_
  show tq_W l mX3_count d 0 0 Q 0 [(0, .ref t)] [] h
  refine tq_aload_n (M := mX3_count) (pc := 0) dX3_count_0 rfl ?_
  obtain ⟨x1, ex1, hf⟩ := tq_be hf
  refine tq_getI (M := mX3_count) (pc := 1) tk_c3 (by decide) dX3_count_1 tk_RX3_60 rfl ex1 ?_
  refine tq_iret (M := mX3_count) (pc := 4) dX3_count_4 rfl ?_
  cases (Option.some.inj hf)
  exact hQ _ _ ⟨rfl, rfl⟩
abbrev mX3_depthAt : tq_M := (RX3, cX3_depthAt, 2, (some .int), false, [])
def f_X3_depthAt (t : Nat) (a1 : Int32) (h : tq_H) : Option (Int32) :=
  (tq_gr h t 3 7).bind fun r1 =>
  (tq_is h r1 7).bind fun _ =>
  (f_X7_get r1 a1 h).bind fun v2 =>
  (f_J13_bitCount_95d88 v2 h).bind fun v4 =>
  some v4
set_option maxHeartbeats 4000000 in
set_option maxRecDepth 20000 in
theorem w_X3_depthAt {l : Launch} {d : Nat} (hd9 : 1 ≤ d) {t : Nat} {a1 : Int32} {h : tq_H} {o : Int32} {Q : tq_R → tq_H → Prop} (hf : f_X3_depthAt t a1 h = some o) (hQ : ∀ r h9, r = .inl (some (.int o)) ∧ h = h9 → Q r h9) : tq_C l yX3_depthAt cX3_depthAt 2 (some .int) d 0 0 [.ref t, .int a1] h Q := by
  refine tq_body (y := yX3_depthAt) false (by decide +kernel) (fun z => by cases z) (Nat.le_of_ble_eq_true rfl) ?_
  show tq_W l mX3_depthAt d 0 0 Q 0 [(0, .ref t), (1, .int a1)] [] h
  refine tq_aload_n (M := mX3_depthAt) (pc := 0) dX3_depthAt_0 rfl ?_
  obtain ⟨r1, er1, hf⟩ := tq_be hf
  refine tq_getR (M := mX3_depthAt) (pc := 1) tk_c3 (by decide) dX3_depthAt_1 tk_RX3_44 rfl er1 ?_
  refine tq_iload_n (M := mX3_depthAt) (pc := 4) dX3_depthAt_4 rfl ?_
  obtain ⟨⟨⟩, eu3, hf⟩ := tq_be hf
  obtain ⟨fsu3, eu3⟩ := tq_is_s eu3
  obtain ⟨v2, ev2, hf⟩ := tq_be hf
  refine tq_calV (M := mX3_depthAt) (pc := 5) (S := []) tk_y_X7_get tk_v_X7_get tk_RX3_76 dX3_depthAt_5 [.int a1] rfl (S0 := _) rfl eu3 rfl (Nat.le_of_ble_eq_true rfl) (d1 := d - 1) (b1 := 0) (s1 := 0) (bc' := 0) (bs' := 0) (Q1 := fun r h9 => r = .inl (some (.long v2)) ∧ h = h9) (by omega) rfl rfl (w_X7_get (by omega) ev2 (fun _ _ q => q)) (fun E h9 q => nomatch (show (Sum.inr E : tq_R) = Sum.inl _ from q.1)) (fun r9 h9 q => ?_)
  obtain ⟨q1, rfl⟩ := q
  cases (show (Sum.inl r9 : tq_R) = Sum.inl (some (.long v2)) from q1)
  obtain ⟨v4, ev4, hf⟩ := tq_be hf
  refine tq_calS (M := mX3_depthAt) (pc := 8) (S := []) tk_y_J13_bitCount_95d88 tk_s_J13_bitCount_95d88 tk_RX3_112 dX3_depthAt_8 [.long v2] rfl (Nat.le_of_ble_eq_true rfl) (d1 := d - 1) (b1 := 0) (s1 := 0) (bc' := 0) (bs' := 0) (Q1 := fun r h9 => r = .inl (some (.int v4)) ∧ h = h9) (by omega) rfl rfl (w_J13_bitCount_95d88 (by omega) ev4 (fun _ _ q => q)) (fun E h9 q => nomatch (show (Sum.inr E : tq_R) = Sum.inl _ from q.1)) (fun r9 h9 q => ?_)
  obtain ⟨q1, rfl⟩ := q
  cases (show (Sum.inl r9 : tq_R) = Sum.inl (some (.int v4)) from q1)
  refine tq_iret (M := mX3_depthAt) (pc := 11) dX3_depthAt_11 rfl ?_
  cases (Option.some.inj hf)
  exact hQ _ _ ⟨rfl, rfl⟩
abbrev mX3_sizeAt : tq_M := (RX3, cX3_sizeAt, 2, (some .int), false, [])
def f_X3_sizeAt (t : Nat) (a1 : Int32) (h : tq_H) : Option (Int32) :=
  (tq_gr h t 3 3).bind fun r1 =>
  (tq_is h r1 5).bind fun _ =>
  (f_X5_get r1 a1 h).bind fun v2 =>
  some (v2 - a1)
set_option maxHeartbeats 4000000 in
set_option maxRecDepth 20000 in
theorem w_X3_sizeAt {l : Launch} {d : Nat} (hd9 : 1 ≤ d) {t : Nat} {a1 : Int32} {h : tq_H} {o : Int32} {Q : tq_R → tq_H → Prop} (hf : f_X3_sizeAt t a1 h = some o) (hQ : ∀ r h9, r = .inl (some (.int o)) ∧ h = h9 → Q r h9) : tq_C l yX3_sizeAt cX3_sizeAt 2 (some .int) d 0 0 [.ref t, .int a1] h Q := by
  refine tq_body (y := yX3_sizeAt) false (by decide +kernel) (fun z => by cases z) (Nat.le_of_ble_eq_true rfl) ?_
  show tq_W l mX3_sizeAt d 0 0 Q 0 [(0, .ref t), (1, .int a1)] [] h
  refine tq_aload_n (M := mX3_sizeAt) (pc := 0) dX3_sizeAt_0 rfl ?_
  obtain ⟨r1, er1, hf⟩ := tq_be hf
  refine tq_getR (M := mX3_sizeAt) (pc := 1) tk_c3 (by decide) dX3_sizeAt_1 tk_RX3_26 rfl er1 ?_
  refine tq_iload_n (M := mX3_sizeAt) (pc := 4) dX3_sizeAt_4 rfl ?_
  obtain ⟨⟨⟩, eu3, hf⟩ := tq_be hf
  obtain ⟨fsu3, eu3⟩ := tq_is_s eu3
  obtain ⟨v2, ev2, hf⟩ := tq_be hf
  refine tq_calV (M := mX3_sizeAt) (pc := 5) (S := []) tk_y_X5_get tk_v_X5_get tk_RX3_88 dX3_sizeAt_5 [.int a1] rfl (S0 := _) rfl eu3 rfl (Nat.le_of_ble_eq_true rfl) (d1 := d - 1) (b1 := 0) (s1 := 0) (bc' := 0) (bs' := 0) (Q1 := fun r h9 => r = .inl (some (.int v2)) ∧ h = h9) (by omega) rfl rfl (w_X5_get (by omega) ev2 (fun _ _ q => q)) (fun E h9 q => nomatch (show (Sum.inr E : tq_R) = Sum.inl _ from q.1)) (fun r9 h9 q => ?_)
  obtain ⟨q1, rfl⟩ := q
  cases (show (Sum.inl r9 : tq_R) = Sum.inl (some (.int v2)) from q1)
  refine tq_iload_n (M := mX3_sizeAt) (pc := 8) dX3_sizeAt_8 rfl ?_
  refine tq_isub (M := mX3_sizeAt) (pc := 9) dX3_sizeAt_9 ?_
  refine tq_iret (M := mX3_sizeAt) (pc := 10) dX3_sizeAt_10 rfl ?_
  cases (Option.some.inj hf)
  exact hQ _ _ ⟨rfl, rfl⟩
abbrev mX3_nodeAt : tq_M := (RX3, cX3_nodeAt, 2, (some .int), false, [])
def f_X3_nodeAt (t : Nat) (a1 : Int32) (h : tq_H) : Option (Int32) :=
  (tq_gr h t 3 0).bind fun r1 =>
  (tq_is h r1 5).bind fun _ =>
  (f_X5_get r1 a1 h).bind fun v2 =>
  some v2
set_option maxHeartbeats 4000000 in
set_option maxRecDepth 20000 in
theorem w_X3_nodeAt {l : Launch} {d : Nat} (hd9 : 1 ≤ d) {t : Nat} {a1 : Int32} {h : tq_H} {o : Int32} {Q : tq_R → tq_H → Prop} (hf : f_X3_nodeAt t a1 h = some o) (hQ : ∀ r h9, r = .inl (some (.int o)) ∧ h = h9 → Q r h9) : tq_C l yX3_nodeAt cX3_nodeAt 2 (some .int) d 0 0 [.ref t, .int a1] h Q := by
  refine tq_body (y := yX3_nodeAt) false (by decide +kernel) (fun z => by cases z) (Nat.le_of_ble_eq_true rfl) ?_
  show tq_W l mX3_nodeAt d 0 0 Q 0 [(0, .ref t), (1, .int a1)] [] h
  refine tq_aload_n (M := mX3_nodeAt) (pc := 0) dX3_nodeAt_0 rfl ?_
  obtain ⟨r1, er1, hf⟩ := tq_be hf
  refine tq_getR (M := mX3_nodeAt) (pc := 1) tk_c3 (by decide) dX3_nodeAt_1 tk_RX3_14 rfl er1 ?_
  refine tq_iload_n (M := mX3_nodeAt) (pc := 4) dX3_nodeAt_4 rfl ?_
  obtain ⟨⟨⟩, eu3, hf⟩ := tq_be hf
  obtain ⟨fsu3, eu3⟩ := tq_is_s eu3
  obtain ⟨v2, ev2, hf⟩ := tq_be hf
  refine tq_calV (M := mX3_nodeAt) (pc := 5) (S := []) tk_y_X5_get tk_v_X5_get tk_RX3_88 dX3_nodeAt_5 [.int a1] rfl (S0 := _) rfl eu3 rfl (Nat.le_of_ble_eq_true rfl) (d1 := d - 1) (b1 := 0) (s1 := 0) (bc' := 0) (bs' := 0) (Q1 := fun r h9 => r = .inl (some (.int v2)) ∧ h = h9) (by omega) rfl rfl (w_X5_get (by omega) ev2 (fun _ _ q => q)) (fun E h9 q => nomatch (show (Sum.inr E : tq_R) = Sum.inl _ from q.1)) (fun r9 h9 q => ?_)
  obtain ⟨q1, rfl⟩ := q
  cases (show (Sum.inl r9 : tq_R) = Sum.inl (some (.int v2)) from q1)
  refine tq_iret (M := mX3_nodeAt) (pc := 8) dX3_nodeAt_8 rfl ?_
  cases (Option.some.inj hf)
  exact hQ _ _ ⟨rfl, rfl⟩
abbrev mX3_elements : tq_M := (RX3, cX3_elements, 1, (some .long), false, [])
def f_X3_elements (t : Nat) (h : tq_H) : Option (Int64) :=
  (tq_gl h t 3 10).bind fun x1 =>
  some x1
set_option maxHeartbeats 4000000 in
set_option maxRecDepth 20000 in
theorem w_X3_elements {l : Launch} {d : Nat} (hd9 : 0 ≤ d) {t : Nat} {h : tq_H} {o : Int64} {Q : tq_R → tq_H → Prop} (hf : f_X3_elements t h = some o) (hQ : ∀ r h9, r = .inl (some (.long o)) ∧ h = h9 → Q r h9) : tq_C l yX3_elements cX3_elements 1 (some .long) d 0 0 [.ref t] h Q := by
  refine tq_body (y := yX3_elements) false (by decide +kernel) (fun z => by cases z) (Nat.le_of_ble_eq_true rfl) ?_
  show tq_W l mX3_elements d 0 0 Q 0 [(0, .ref t)] [] h
  refine tq_aload_n (M := mX3_elements) (pc := 0) dX3_elements_0 rfl ?_
  obtain ⟨x1, ex1, hf⟩ := tq_be hf
  refine tq_getL (M := mX3_elements) (pc := 1) tk_c3 (by decide) dX3_elements_1 tk_RX3_53 rfl ex1 ?_
  refine tq_lret (M := mX3_elements) (pc := 4) dX3_elements_4 rfl ?_
  cases (Option.some.inj hf)
  exact hQ _ _ ⟨rfl, rfl⟩
abbrev mX3_below : tq_M := (RX3, cX3_below, 2, (some .long), false, [])
def f_X3_below (t : Nat) (a1 : Int32) (h : tq_H) : Option (Int64) :=
  (tq_gr h t 3 8).bind fun r1 =>
  (tq_is h r1 7).bind fun _ =>
  (f_X7_get r1 a1 h).bind fun v2 =>
  some v2
set_option maxHeartbeats 4000000 in
set_option maxRecDepth 20000 in
theorem w_X3_below {l : Launch} {d : Nat} (hd9 : 1 ≤ d) {t : Nat} {a1 : Int32} {h : tq_H} {o : Int64} {Q : tq_R → tq_H → Prop} (hf : f_X3_below t a1 h = some o) (hQ : ∀ r h9, r = .inl (some (.long o)) ∧ h = h9 → Q r h9) : tq_C l yX3_below cX3_below 2 (some .long) d 0 0 [.ref t, .int a1] h Q := by
  refine tq_body (y := yX3_below) false (by decide +kernel) (fun z => by cases z) (Nat.le_of_ble_eq_true rfl) ?_
  show tq_W l mX3_below d 0 0 Q 0 [(0, .ref t), (1, .int a1)] [] h
  refine tq_aload_n (M := mX3_below) (pc := 0) dX3_below_0 rfl ?_
  obtain ⟨r1, er1, hf⟩ := tq_be hf
  refine tq_getR (M := mX3_below) (pc := 1) tk_c3 (by decide) dX3_below_1 tk_RX3_47 rfl er1 ?_
  refine tq_iload_n (M := mX3_below) (pc := 4) dX3_below_4 rfl ?_
  obtain ⟨⟨⟩, eu3, hf⟩ := tq_be hf
  obtain ⟨fsu3, eu3⟩ := tq_is_s eu3
  obtain ⟨v2, ev2, hf⟩ := tq_be hf
  refine tq_calV (M := mX3_below) (pc := 5) (S := []) tk_y_X7_get tk_v_X7_get tk_RX3_76 dX3_below_5 [.int a1] rfl (S0 := _) rfl eu3 rfl (Nat.le_of_ble_eq_true rfl) (d1 := d - 1) (b1 := 0) (s1 := 0) (bc' := 0) (bs' := 0) (Q1 := fun r h9 => r = .inl (some (.long v2)) ∧ h = h9) (by omega) rfl rfl (w_X7_get (by omega) ev2 (fun _ _ q => q)) (fun E h9 q => nomatch (show (Sum.inr E : tq_R) = Sum.inl _ from q.1)) (fun r9 h9 q => ?_)
  obtain ⟨q1, rfl⟩ := q
  cases (show (Sum.inl r9 : tq_R) = Sum.inl (some (.long v2)) from q1)
  refine tq_lret (M := mX3_below) (pc := 8) dX3_below_8 rfl ?_
  cases (Option.some.inj hf)
  exact hQ _ _ ⟨rfl, rfl⟩
abbrev mX3_passing : tq_M := (RX3, cX3_passing, 2, (some .long), false, [])
def f_X3_passing (t : Nat) (a1 : Int32) (h : tq_H) : Option (Int64) :=
  (tq_gr h t 3 9).bind fun r1 =>
  (tq_is h r1 7).bind fun _ =>
  (f_X7_get r1 a1 h).bind fun v2 =>
  some v2
set_option maxHeartbeats 4000000 in
set_option maxRecDepth 20000 in
theorem w_X3_passing {l : Launch} {d : Nat} (hd9 : 1 ≤ d) {t : Nat} {a1 : Int32} {h : tq_H} {o : Int64} {Q : tq_R → tq_H → Prop} (hf : f_X3_passing t a1 h = some o) (hQ : ∀ r h9, r = .inl (some (.long o)) ∧ h = h9 → Q r h9) : tq_C l yX3_passing cX3_passing 2 (some .long) d 0 0 [.ref t, .int a1] h Q := by
  refine tq_body (y := yX3_passing) false (by decide +kernel) (fun z => by cases z) (Nat.le_of_ble_eq_true rfl) ?_
  show tq_W l mX3_passing d 0 0 Q 0 [(0, .ref t), (1, .int a1)] [] h
  refine tq_aload_n (M := mX3_passing) (pc := 0) dX3_passing_0 rfl ?_
  obtain ⟨r1, er1, hf⟩ := tq_be hf
  refine tq_getR (M := mX3_passing) (pc := 1) tk_c3 (by decide) dX3_passing_1 tk_RX3_50 rfl er1 ?_
  refine tq_iload_n (M := mX3_passing) (pc := 4) dX3_passing_4 rfl ?_
  obtain ⟨⟨⟩, eu3, hf⟩ := tq_be hf
  obtain ⟨fsu3, eu3⟩ := tq_is_s eu3
  obtain ⟨v2, ev2, hf⟩ := tq_be hf
  refine tq_calV (M := mX3_passing) (pc := 5) (S := []) tk_y_X7_get tk_v_X7_get tk_RX3_76 dX3_passing_5 [.int a1] rfl (S0 := _) rfl eu3 rfl (Nat.le_of_ble_eq_true rfl) (d1 := d - 1) (b1 := 0) (s1 := 0) (bc' := 0) (bs' := 0) (Q1 := fun r h9 => r = .inl (some (.long v2)) ∧ h = h9) (by omega) rfl rfl (w_X7_get (by omega) ev2 (fun _ _ q => q)) (fun E h9 q => nomatch (show (Sum.inr E : tq_R) = Sum.inl _ from q.1)) (fun r9 h9 q => ?_)
  obtain ⟨q1, rfl⟩ := q
  cases (show (Sum.inl r9 : tq_R) = Sum.inl (some (.long v2)) from q1)
  refine tq_lret (M := mX3_passing) (pc := 8) dX3_passing_8 rfl ?_
  cases (Option.some.inj hf)
  exact hQ _ _ ⟨rfl, rfl⟩
abbrev mX3_nodeOfSet : tq_M := (RX3, cX3_nodeOfSet, 4, (some .int), false, [])
def f_X3_nodeOfSet (t : Nat) (a1 : Int64) (a3 : Int32) (h : tq_H) : Option (Int32) :=
  (tq_gr h t 3 0).bind fun r1 =>
  (f_X0_memberAt a1 a3 h).bind fun v2 =>
  (tq_is h r1 5).bind fun _ =>
  (f_X5_get r1 v2 h).bind fun v3 =>
  some v3
set_option maxHeartbeats 4000000 in
set_option maxRecDepth 20000 in
theorem w_X3_nodeOfSet {l : Launch} {d : Nat} (hd9 : 3 ≤ d) {t : Nat} {a1 : Int64} {a3 : Int32} {h : tq_H} {o : Int32} {Q : tq_R → tq_H → Prop} (hf : f_X3_nodeOfSet t a1 a3 h = some o) (hQ : ∀ r h9, r = .inl (some (.int o)) ∧ h = h9 → Q r h9) : tq_C l yX3_nodeOfSet cX3_nodeOfSet 4 (some .int) d 0 0 [.ref t, .long a1, .int a3] h Q := by
  refine tq_body (y := yX3_nodeOfSet) false (by decide +kernel) (fun z => by cases z) (Nat.le_of_ble_eq_true rfl) ?_
  show tq_W l mX3_nodeOfSet d 0 0 Q 0 [(0, .ref t), (1, .long a1), (3, .int a3)] [] h
  refine tq_aload_n (M := mX3_nodeOfSet) (pc := 0) dX3_nodeOfSet_0 rfl ?_
  obtain ⟨r1, er1, hf⟩ := tq_be hf
  refine tq_getR (M := mX3_nodeOfSet) (pc := 1) tk_c3 (by decide) dX3_nodeOfSet_1 tk_RX3_14 rfl er1 ?_
  refine tq_lload_n (M := mX3_nodeOfSet) (pc := 4) dX3_nodeOfSet_4 rfl ?_
  refine tq_iload_n (M := mX3_nodeOfSet) (pc := 5) dX3_nodeOfSet_5 rfl ?_
  obtain ⟨v2, ev2, hf⟩ := tq_be hf
  refine tq_calS (M := mX3_nodeOfSet) (pc := 6) (S := [.ref r1]) tk_y_X0_memberAt tk_s_X0_memberAt tk_RX3_108 dX3_nodeOfSet_6 [.long a1, .int a3] rfl (Nat.le_of_ble_eq_true rfl) (d1 := d - 1) (b1 := 0) (s1 := 0) (bc' := 0) (bs' := 0) (Q1 := fun r h9 => r = .inl (some (.int v2)) ∧ h = h9) (by omega) rfl rfl (w_X0_memberAt (by omega) ev2 (fun _ _ q => q)) (fun E h9 q => nomatch (show (Sum.inr E : tq_R) = Sum.inl _ from q.1)) (fun r9 h9 q => ?_)
  obtain ⟨q1, rfl⟩ := q
  cases (show (Sum.inl r9 : tq_R) = Sum.inl (some (.int v2)) from q1)
  obtain ⟨⟨⟩, eu4, hf⟩ := tq_be hf
  obtain ⟨fsu4, eu4⟩ := tq_is_s eu4
  obtain ⟨v3, ev3, hf⟩ := tq_be hf
  refine tq_calV (M := mX3_nodeOfSet) (pc := 9) (S := []) tk_y_X5_get tk_v_X5_get tk_RX3_88 dX3_nodeOfSet_9 [.int v2] rfl (S0 := _) rfl eu4 rfl (Nat.le_of_ble_eq_true rfl) (d1 := d - 1) (b1 := 0) (s1 := 0) (bc' := 0) (bs' := 0) (Q1 := fun r h9 => r = .inl (some (.int v3)) ∧ h = h9) (by omega) rfl rfl (w_X5_get (by omega) ev3 (fun _ _ q => q)) (fun E h9 q => nomatch (show (Sum.inr E : tq_R) = Sum.inl _ from q.1)) (fun r9 h9 q => ?_)
  obtain ⟨q1, rfl⟩ := q
  cases (show (Sum.inl r9 : tq_R) = Sum.inl (some (.int v3)) from q1)
  refine tq_iret (M := mX3_nodeOfSet) (pc := 12) dX3_nodeOfSet_12 rfl ?_
  cases (Option.some.inj hf)
  exact hQ _ _ ⟨rfl, rfl⟩
abbrev mX4_stepsOf : tq_M := (RX4, cX4_stepsOf, 2, (some .int), false, [])
def f_X4_stepsOf (t : Nat) (a1 : Int32) (h : tq_H) : Option (Int32) :=
  (tq_gr h t 4 0).bind fun r1 =>
  (tq_is h r1 5).bind fun _ =>
  (f_X5_get r1 a1 h).bind fun v2 =>
  some v2
set_option maxHeartbeats 4000000 in
set_option maxRecDepth 20000 in
theorem w_X4_stepsOf {l : Launch} {d : Nat} (hd9 : 1 ≤ d) {t : Nat} {a1 : Int32} {h : tq_H} {o : Int32} {Q : tq_R → tq_H → Prop} (hf : f_X4_stepsOf t a1 h = some o) (hQ : ∀ r h9, r = .inl (some (.int o)) ∧ h = h9 → Q r h9) : tq_C l yX4_stepsOf cX4_stepsOf 2 (some .int) d 0 0 [.ref t, .int a1] h Q := by
  refine tq_body (y := yX4_stepsOf) false (by decide +kernel) (fun z => by cases z) (Nat.le_of_ble_eq_true rfl) ?_
  show tq_W l mX4_stepsOf d 0 0 Q 0 [(0, .ref t), (1, .int a1)] [] h
  refine tq_aload_n (M := mX4_stepsOf) (pc := 0) dX4_stepsOf_0 rfl ?_
  obtain ⟨r1, er1, hf⟩ := tq_be hf
  refine tq_getR (M := mX4_stepsOf) (pc := 1) tk_c4 (by decide) dX4_stepsOf_1 tk_RX4_14 rfl er1 ?_
  refine tq_iload_n (M := mX4_stepsOf) (pc := 4) dX4_stepsOf_4 rfl ?_
  obtain ⟨⟨⟩, eu3, hf⟩ := tq_be hf
  obtain ⟨fsu3, eu3⟩ := tq_is_s eu3
  obtain ⟨v2, ev2, hf⟩ := tq_be hf
  refine tq_calV (M := mX4_stepsOf) (pc := 5) (S := []) tk_y_X5_get tk_v_X5_get tk_RX4_48 dX4_stepsOf_5 [.int a1] rfl (S0 := _) rfl eu3 rfl (Nat.le_of_ble_eq_true rfl) (d1 := d - 1) (b1 := 0) (s1 := 0) (bc' := 0) (bs' := 0) (Q1 := fun r h9 => r = .inl (some (.int v2)) ∧ h = h9) (by omega) rfl rfl (w_X5_get (by omega) ev2 (fun _ _ q => q)) (fun E h9 q => nomatch (show (Sum.inr E : tq_R) = Sum.inl _ from q.1)) (fun r9 h9 q => ?_)
  obtain ⟨q1, rfl⟩ := q
  cases (show (Sum.inl r9 : tq_R) = Sum.inl (some (.int v2)) from q1)
  refine tq_iret (M := mX4_stepsOf) (pc := 8) dX4_stepsOf_8 rfl ?_
  cases (Option.some.inj hf)
  exact hQ _ _ ⟨rfl, rfl⟩
abbrev mX4_stepAt : tq_M := (RX4, cX4_stepAt, 3, (some .int), false, [])
def f_X4_stepAt (t : Nat) (a1 : Int32) (a2 : Int32) (h : tq_H) : Option (Int32) :=
  some ((a1 * (5 : Int32)) + a2)
set_option maxHeartbeats 4000000 in
set_option maxRecDepth 20000 in
theorem w_X4_stepAt {l : Launch} {d : Nat} (hd9 : 0 ≤ d) {t : Nat} {a1 : Int32} {a2 : Int32} {h : tq_H} {o : Int32} {Q : tq_R → tq_H → Prop} (hf : f_X4_stepAt t a1 a2 h = some o) (hQ : ∀ r h9, r = .inl (some (.int o)) ∧ h = h9 → Q r h9) : tq_C l yX4_stepAt cX4_stepAt 3 (some .int) d 0 0 [.ref t, .int a1, .int a2] h Q := by
  refine tq_body (y := yX4_stepAt) false (by decide +kernel) (fun z => by cases z) (Nat.le_of_ble_eq_true rfl) ?_
  show tq_W l mX4_stepAt d 0 0 Q 0 [(0, .ref t), (1, .int a1), (2, .int a2)] [] h
  refine tq_iload_n (M := mX4_stepAt) (pc := 0) dX4_stepAt_0 rfl ?_
  refine tq_iconst (M := mX4_stepAt) (pc := 1) dX4_stepAt_1 tk_ki_5 ?_
  refine tq_imul (M := mX4_stepAt) (pc := 2) dX4_stepAt_2 ?_
  refine tq_iload_n (M := mX4_stepAt) (pc := 3) dX4_stepAt_3 rfl ?_
  refine tq_iadd (M := mX4_stepAt) (pc := 4) dX4_stepAt_4 ?_
  refine tq_iret (M := mX4_stepAt) (pc := 5) dX4_stepAt_5 rfl ?_
  cases (Option.some.inj hf)
  exact hQ _ _ ⟨rfl, rfl⟩
abbrev mX4_axisOf : tq_M := (RX4, cX4_axisOf, 2, (some .int), false, [])
def f_X4_axisOf (t : Nat) (a1 : Int32) (h : tq_H) : Option (Int32) :=
  (tq_gr h t 4 1).bind fun r1 =>
  (tq_is h r1 5).bind fun _ =>
  (f_X5_get r1 a1 h).bind fun v2 =>
  some v2
set_option maxHeartbeats 4000000 in
set_option maxRecDepth 20000 in
theorem w_X4_axisOf {l : Launch} {d : Nat} (hd9 : 1 ≤ d) {t : Nat} {a1 : Int32} {h : tq_H} {o : Int32} {Q : tq_R → tq_H → Prop} (hf : f_X4_axisOf t a1 h = some o) (hQ : ∀ r h9, r = .inl (some (.int o)) ∧ h = h9 → Q r h9) : tq_C l yX4_axisOf cX4_axisOf 2 (some .int) d 0 0 [.ref t, .int a1] h Q := by
  refine tq_body (y := yX4_axisOf) false (by decide +kernel) (fun z => by cases z) (Nat.le_of_ble_eq_true rfl) ?_
  show tq_W l mX4_axisOf d 0 0 Q 0 [(0, .ref t), (1, .int a1)] [] h
  refine tq_aload_n (M := mX4_axisOf) (pc := 0) dX4_axisOf_0 rfl ?_
  obtain ⟨r1, er1, hf⟩ := tq_be hf
  refine tq_getR (M := mX4_axisOf) (pc := 1) tk_c4 (by decide) dX4_axisOf_1 tk_RX4_20 rfl er1 ?_
  refine tq_iload_n (M := mX4_axisOf) (pc := 4) dX4_axisOf_4 rfl ?_
  obtain ⟨⟨⟩, eu3, hf⟩ := tq_be hf
  obtain ⟨fsu3, eu3⟩ := tq_is_s eu3
  obtain ⟨v2, ev2, hf⟩ := tq_be hf
  refine tq_calV (M := mX4_axisOf) (pc := 5) (S := []) tk_y_X5_get tk_v_X5_get tk_RX4_48 dX4_axisOf_5 [.int a1] rfl (S0 := _) rfl eu3 rfl (Nat.le_of_ble_eq_true rfl) (d1 := d - 1) (b1 := 0) (s1 := 0) (bc' := 0) (bs' := 0) (Q1 := fun r h9 => r = .inl (some (.int v2)) ∧ h = h9) (by omega) rfl rfl (w_X5_get (by omega) ev2 (fun _ _ q => q)) (fun E h9 q => nomatch (show (Sum.inr E : tq_R) = Sum.inl _ from q.1)) (fun r9 h9 q => ?_)
  obtain ⟨q1, rfl⟩ := q
  cases (show (Sum.inl r9 : tq_R) = Sum.inl (some (.int v2)) from q1)
  refine tq_iret (M := mX4_axisOf) (pc := 8) dX4_axisOf_8 rfl ?_
  cases (Option.some.inj hf)
  exact hQ _ _ ⟨rfl, rfl⟩
abbrev mX4_repeatOf : tq_M := (RX4, cX4_repeatOf, 2, (some .int), false, [])
def f_X4_repeatOf (t : Nat) (a1 : Int32) (h : tq_H) : Option (Int32) :=
  (tq_gr h t 4 3).bind fun r1 =>
  (tq_is h r1 5).bind fun _ =>
  (f_X5_get r1 a1 h).bind fun v2 =>
  some v2
set_option maxHeartbeats 4000000 in
set_option maxRecDepth 20000 in
theorem w_X4_repeatOf {l : Launch} {d : Nat} (hd9 : 1 ≤ d) {t : Nat} {a1 : Int32} {h : tq_H} {o : Int32} {Q : tq_R → tq_H → Prop} (hf : f_X4_repeatOf t a1 h = some o) (hQ : ∀ r h9, r = .inl (some (.int o)) ∧ h = h9 → Q r h9) : tq_C l yX4_repeatOf cX4_repeatOf 2 (some .int) d 0 0 [.ref t, .int a1] h Q := by
  refine tq_body (y := yX4_repeatOf) false (by decide +kernel) (fun z => by cases z) (Nat.le_of_ble_eq_true rfl) ?_
  show tq_W l mX4_repeatOf d 0 0 Q 0 [(0, .ref t), (1, .int a1)] [] h
  refine tq_aload_n (M := mX4_repeatOf) (pc := 0) dX4_repeatOf_0 rfl ?_
  obtain ⟨r1, er1, hf⟩ := tq_be hf
  refine tq_getR (M := mX4_repeatOf) (pc := 1) tk_c4 (by decide) dX4_repeatOf_1 tk_RX4_26 rfl er1 ?_
  refine tq_iload_n (M := mX4_repeatOf) (pc := 4) dX4_repeatOf_4 rfl ?_
  obtain ⟨⟨⟩, eu3, hf⟩ := tq_be hf
  obtain ⟨fsu3, eu3⟩ := tq_is_s eu3
  obtain ⟨v2, ev2, hf⟩ := tq_be hf
  refine tq_calV (M := mX4_repeatOf) (pc := 5) (S := []) tk_y_X5_get tk_v_X5_get tk_RX4_48 dX4_repeatOf_5 [.int a1] rfl (S0 := _) rfl eu3 rfl (Nat.le_of_ble_eq_true rfl) (d1 := d - 1) (b1 := 0) (s1 := 0) (bc' := 0) (bs' := 0) (Q1 := fun r h9 => r = .inl (some (.int v2)) ∧ h = h9) (by omega) rfl rfl (w_X5_get (by omega) ev2 (fun _ _ q => q)) (fun E h9 q => nomatch (show (Sum.inr E : tq_R) = Sum.inl _ from q.1)) (fun r9 h9 q => ?_)
  obtain ⟨q1, rfl⟩ := q
  cases (show (Sum.inl r9 : tq_R) = Sum.inl (some (.int v2)) from q1)
  refine tq_iret (M := mX4_repeatOf) (pc := 8) dX4_repeatOf_8 rfl ?_
  cases (Option.some.inj hf)
  exact hQ _ _ ⟨rfl, rfl⟩
abbrev mX4_testOf : tq_M := (RX4, cX4_testOf, 2, (some .int), false, [])
def f_X4_testOf (t : Nat) (a1 : Int32) (h : tq_H) : Option (Int32) :=
  (tq_gr h t 4 2).bind fun r1 =>
  (tq_is h r1 5).bind fun _ =>
  (f_X5_get r1 a1 h).bind fun v2 =>
  some v2
set_option maxHeartbeats 4000000 in
set_option maxRecDepth 20000 in
theorem w_X4_testOf {l : Launch} {d : Nat} (hd9 : 1 ≤ d) {t : Nat} {a1 : Int32} {h : tq_H} {o : Int32} {Q : tq_R → tq_H → Prop} (hf : f_X4_testOf t a1 h = some o) (hQ : ∀ r h9, r = .inl (some (.int o)) ∧ h = h9 → Q r h9) : tq_C l yX4_testOf cX4_testOf 2 (some .int) d 0 0 [.ref t, .int a1] h Q := by
  refine tq_body (y := yX4_testOf) false (by decide +kernel) (fun z => by cases z) (Nat.le_of_ble_eq_true rfl) ?_
  show tq_W l mX4_testOf d 0 0 Q 0 [(0, .ref t), (1, .int a1)] [] h
  refine tq_aload_n (M := mX4_testOf) (pc := 0) dX4_testOf_0 rfl ?_
  obtain ⟨r1, er1, hf⟩ := tq_be hf
  refine tq_getR (M := mX4_testOf) (pc := 1) tk_c4 (by decide) dX4_testOf_1 tk_RX4_23 rfl er1 ?_
  refine tq_iload_n (M := mX4_testOf) (pc := 4) dX4_testOf_4 rfl ?_
  obtain ⟨⟨⟩, eu3, hf⟩ := tq_be hf
  obtain ⟨fsu3, eu3⟩ := tq_is_s eu3
  obtain ⟨v2, ev2, hf⟩ := tq_be hf
  refine tq_calV (M := mX4_testOf) (pc := 5) (S := []) tk_y_X5_get tk_v_X5_get tk_RX4_48 dX4_testOf_5 [.int a1] rfl (S0 := _) rfl eu3 rfl (Nat.le_of_ble_eq_true rfl) (d1 := d - 1) (b1 := 0) (s1 := 0) (bc' := 0) (bs' := 0) (Q1 := fun r h9 => r = .inl (some (.int v2)) ∧ h = h9) (by omega) rfl rfl (w_X5_get (by omega) ev2 (fun _ _ q => q)) (fun E h9 q => nomatch (show (Sum.inr E : tq_R) = Sum.inl _ from q.1)) (fun r9 h9 q => ?_)
  obtain ⟨q1, rfl⟩ := q
  cases (show (Sum.inl r9 : tq_R) = Sum.inl (some (.int v2)) from q1)
  refine tq_iret (M := mX4_testOf) (pc := 8) dX4_testOf_8 rfl ?_
  cases (Option.some.inj hf)
  exact hQ _ _ ⟨rfl, rfl⟩
abbrev mX3_reached : tq_M := (RX3, cX3_reached, 3, (some .long), false, [])
def f_X3_reached (t : Nat) (a1 : Int32) (a2 : Int32) (h : tq_H) : Option (Int64) :=
  if a1 = (0 : Int32) then
    (f_X0_one a2 h).bind fun v1 =>
    some v1
  else
  if a1 = (1 : Int32) then
    (tq_gr h t 3 5).bind fun r2 =>
    (tq_is h r2 7).bind fun _ =>
    (f_X7_get r2 a2 h).bind fun v3 =>
    (tq_gl h t 3 11).bind fun x5 =>
    some (v3 &&& (x5 ^^^ (-1 : Int64)))
  else
  if a1 = (2 : Int32) then
    (tq_gr h t 3 2).bind fun r6 =>
    (tq_is h r6 5).bind fun _ =>
    (f_X5_get r6 a2 h).bind fun v7 =>
    (f_X0_one v7 h).bind fun v9 =>
    some v9
  else
  if a1 = (3 : Int32) then
    (tq_gr h t 3 8).bind fun r10 =>
    (tq_is h r10 7).bind fun _ =>
    (f_X7_get r10 a2 h).bind fun v11 =>
    (tq_gl h t 3 11).bind fun x13 =>
    some (v11 &&& (x13 ^^^ (-1 : Int64)))
  else
  if a1 = (4 : Int32) then
    (tq_gr h t 3 8).bind fun r14 =>
    (tq_is h r14 7).bind fun _ =>
    (f_X7_get r14 a2 h).bind fun v15 =>
    (tq_gl h t 3 11).bind fun x17 =>
    (f_X0_one a2 h).bind fun v18 =>
    some ((v15 &&& (x17 ^^^ (-1 : Int64))) ||| v18)
  else
  if a1 = (5 : Int32) then
    (tq_gr h t 3 7).bind fun r19 =>
    (tq_is h r19 7).bind fun _ =>
    (f_X7_get r19 a2 h).bind fun v20 =>
    some v20
  else
  if a1 = (6 : Int32) then
    (tq_gr h t 3 7).bind fun r22 =>
    (tq_is h r22 7).bind fun _ =>
    (f_X7_get r22 a2 h).bind fun v23 =>
    (f_X0_one a2 h).bind fun v25 =>
    some (v23 ||| v25)
  else
  if a1 = (7 : Int32) then
    (tq_gi h t 3 12).bind fun x26 =>
    (f_X0_below x26 h).bind fun v27 =>
    (tq_gr h t 3 3).bind fun r28 =>
    (tq_is h r28 5).bind fun _ =>
    (f_X5_get r28 a2 h).bind fun v29 =>
    (f_X0_below v29 h).bind fun v31 =>
    (tq_gl h t 3 11).bind fun x32 =>
    some ((v27 &&& (v31 ^^^ (-1 : Int64))) &&& (x32 ^^^ (-1 : Int64)))
  else
  if a1 = (8 : Int32) then
    (f_X0_below a2 h).bind fun v33 =>
    (tq_gl h t 3 11).bind fun x34 =>
    (tq_gr h t 3 7).bind fun r35 =>
    (tq_is h r35 7).bind fun _ =>
    (f_X7_get r35 a2 h).bind fun v36 =>
    some ((v33 &&& (x34 ^^^ (-1 : Int64))) &&& (v36 ^^^ (-1 : Int64)))
  else
  if a1 = (9 : Int32) then
    (tq_gr h t 3 6).bind fun r38 =>
    (tq_is h r38 7).bind fun _ =>
    (f_X7_get r38 a2 h).bind fun v39 =>
    (f_X0_below (a2 + (1 : Int32)) h).bind fun v41 =>
    some (v39 &&& (v41 ^^^ (-1 : Int64)))
  else
  if a1 = (10 : Int32) then
    (tq_gr h t 3 6).bind fun r42 =>
    (tq_is h r42 7).bind fun _ =>
    (f_X7_get r42 a2 h).bind fun v43 =>
    (f_X0_below a2 h).bind fun v45 =>
    some (v43 &&& v45)
  else
  if a1 = (11 : Int32) then
    (tq_gr h t 3 5).bind fun r46 =>
    (tq_is h r46 7).bind fun _ =>
    (f_X7_get r46 a2 h).bind fun v47 =>
    (tq_gl h t 3 11).bind fun x49 =>
    some (v47 &&& x49)
  else
    some (0 : Int64)
set_option maxHeartbeats 4000000 in
set_option maxRecDepth 20000 in
theorem w_X3_reached {l : Launch} {d : Nat} (hd9 : 1 ≤ d) {t : Nat} {a1 : Int32} {a2 : Int32} {h : tq_H} {o : Int64} {Q : tq_R → tq_H → Prop} (hf : f_X3_reached t a1 a2 h = some o) (hQ : ∀ r h9, r = .inl (some (.long o)) ∧ h = h9 → Q r h9) : tq_C l yX3_reached cX3_reached 3 (some .long) d 0 0 [.ref t, .int a1, .int a2] h Q := by
  refine tq_body (y := yX3_reached) false (by decide +kernel) (fun z => by cases z) (Nat.le_of_ble_eq_true rfl) ?_
  show tq_W l mX3_reached d 0 0 Q 0 [(0, .ref t), (1, .int a1), (2, .int a2)] [] h
  refine tq_iload_n (M := mX3_reached) (pc := 0) dX3_reached_0 rfl ?_
  by_cases c0 : a1 = (0 : Int32)
  · have hf := tq_ifp hf c0
    rw [c0]
    refine tq_tabC (M := mX3_reached) (pc := 1) (tgt := 64) (0 : Int32) dX3_reached_1 (by decide +kernel) (by decide +kernel) (off := 63) (by decide +kernel) (by decide) ?_
    refine tq_iload_n (M := mX3_reached) (pc := 64) dX3_reached_64 rfl ?_
    obtain ⟨v1, ev1, hf⟩ := tq_be hf
    refine tq_calS (M := mX3_reached) (pc := 65) (S := []) tk_y_X0_one tk_s_X0_one tk_RX3_80 dX3_reached_65 [.int a2] rfl (Nat.le_of_ble_eq_true rfl) (d1 := d - 1) (b1 := 0) (s1 := 0) (bc' := 0) (bs' := 0) (Q1 := fun r h9 => r = .inl (some (.long v1)) ∧ h = h9) (by omega) rfl rfl (w_X0_one (by omega) ev1 (fun _ _ q => q)) (fun E h9 q => nomatch (show (Sum.inr E : tq_R) = Sum.inl _ from q.1)) (fun r9 h9 q => ?_)
    obtain ⟨q1, rfl⟩ := q
    cases (show (Sum.inl r9 : tq_R) = Sum.inl (some (.long v1)) from q1)
    refine tq_lret (M := mX3_reached) (pc := 68) dX3_reached_68 rfl ?_
    cases (Option.some.inj hf)
    exact hQ _ _ ⟨rfl, rfl⟩
  have hf := tq_ifn hf c0
  by_cases c1 : a1 = (1 : Int32)
  · have hf := tq_ifp hf c1
    rw [c1]
    refine tq_tabC (M := mX3_reached) (pc := 1) (tgt := 69) (1 : Int32) dX3_reached_1 (by decide +kernel) (by decide +kernel) (off := 68) (by decide +kernel) (by decide) ?_
    refine tq_aload_n (M := mX3_reached) (pc := 69) dX3_reached_69 rfl ?_
    obtain ⟨r2, er2, hf⟩ := tq_be hf
    refine tq_getR (M := mX3_reached) (pc := 70) tk_c3 (by decide) dX3_reached_70 tk_RX3_37 rfl er2 ?_
    refine tq_iload_n (M := mX3_reached) (pc := 73) dX3_reached_73 rfl ?_
    obtain ⟨⟨⟩, eu4, hf⟩ := tq_be hf
    obtain ⟨fsu4, eu4⟩ := tq_is_s eu4
    obtain ⟨v3, ev3, hf⟩ := tq_be hf
    refine tq_calV (M := mX3_reached) (pc := 74) (S := []) tk_y_X7_get tk_v_X7_get tk_RX3_76 dX3_reached_74 [.int a2] rfl (S0 := _) rfl eu4 rfl (Nat.le_of_ble_eq_true rfl) (d1 := d - 1) (b1 := 0) (s1 := 0) (bc' := 0) (bs' := 0) (Q1 := fun r h9 => r = .inl (some (.long v3)) ∧ h = h9) (by omega) rfl rfl (w_X7_get (by omega) ev3 (fun _ _ q => q)) (fun E h9 q => nomatch (show (Sum.inr E : tq_R) = Sum.inl _ from q.1)) (fun r9 h9 q => ?_)
    obtain ⟨q1, rfl⟩ := q
    cases (show (Sum.inl r9 : tq_R) = Sum.inl (some (.long v3)) from q1)
    refine tq_aload_n (M := mX3_reached) (pc := 77) dX3_reached_77 rfl ?_
    obtain ⟨x5, ex5, hf⟩ := tq_be hf
    refine tq_getL (M := mX3_reached) (pc := 78) tk_c3 (by decide) dX3_reached_78 tk_RX3_57 rfl ex5 ?_
    refine tq_ldc2 (M := mX3_reached) (pc := 81) dX3_reached_81 tk_RX3_99 ?_
    refine tq_lxor (M := mX3_reached) (pc := 84) dX3_reached_84 ?_
    refine tq_land (M := mX3_reached) (pc := 85) dX3_reached_85 ?_
    refine tq_lret (M := mX3_reached) (pc := 86) dX3_reached_86 rfl ?_
    cases (Option.some.inj hf)
    exact hQ _ _ ⟨rfl, rfl⟩
  have hf := tq_ifn hf c1
  by_cases c2 : a1 = (2 : Int32)
  · have hf := tq_ifp hf c2
    rw [c2]
    refine tq_tabC (M := mX3_reached) (pc := 1) (tgt := 87) (2 : Int32) dX3_reached_1 (by decide +kernel) (by decide +kernel) (off := 86) (by decide +kernel) (by decide) ?_
    refine tq_aload_n (M := mX3_reached) (pc := 87) dX3_reached_87 rfl ?_
    obtain ⟨r6, er6, hf⟩ := tq_be hf
    refine tq_getR (M := mX3_reached) (pc := 88) tk_c3 (by decide) dX3_reached_88 tk_RX3_23 rfl er6 ?_
    refine tq_iload_n (M := mX3_reached) (pc := 91) dX3_reached_91 rfl ?_
    obtain ⟨⟨⟩, eu8, hf⟩ := tq_be hf
    obtain ⟨fsu8, eu8⟩ := tq_is_s eu8
    obtain ⟨v7, ev7, hf⟩ := tq_be hf
    refine tq_calV (M := mX3_reached) (pc := 92) (S := []) tk_y_X5_get tk_v_X5_get tk_RX3_88 dX3_reached_92 [.int a2] rfl (S0 := _) rfl eu8 rfl (Nat.le_of_ble_eq_true rfl) (d1 := d - 1) (b1 := 0) (s1 := 0) (bc' := 0) (bs' := 0) (Q1 := fun r h9 => r = .inl (some (.int v7)) ∧ h = h9) (by omega) rfl rfl (w_X5_get (by omega) ev7 (fun _ _ q => q)) (fun E h9 q => nomatch (show (Sum.inr E : tq_R) = Sum.inl _ from q.1)) (fun r9 h9 q => ?_)
    obtain ⟨q1, rfl⟩ := q
    cases (show (Sum.inl r9 : tq_R) = Sum.inl (some (.int v7)) from q1)
    obtain ⟨v9, ev9, hf⟩ := tq_be hf
    refine tq_calS (M := mX3_reached) (pc := 95) (S := []) tk_y_X0_one tk_s_X0_one tk_RX3_80 dX3_reached_95 [.int v7] rfl (Nat.le_of_ble_eq_true rfl) (d1 := d - 1) (b1 := 0) (s1 := 0) (bc' := 0) (bs' := 0) (Q1 := fun r h9 => r = .inl (some (.long v9)) ∧ h = h9) (by omega) rfl rfl (w_X0_one (by omega) ev9 (fun _ _ q => q)) (fun E h9 q => nomatch (show (Sum.inr E : tq_R) = Sum.inl _ from q.1)) (fun r9 h9 q => ?_)
    obtain ⟨q1, rfl⟩ := q
    cases (show (Sum.inl r9 : tq_R) = Sum.inl (some (.long v9)) from q1)
    refine tq_lret (M := mX3_reached) (pc := 98) dX3_reached_98 rfl ?_
    cases (Option.some.inj hf)
    exact hQ _ _ ⟨rfl, rfl⟩
  have hf := tq_ifn hf c2
  by_cases c3 : a1 = (3 : Int32)
  · have hf := tq_ifp hf c3
    rw [c3]
    refine tq_tabC (M := mX3_reached) (pc := 1) (tgt := 99) (3 : Int32) dX3_reached_1 (by decide +kernel) (by decide +kernel) (off := 98) (by decide +kernel) (by decide) ?_
    refine tq_aload_n (M := mX3_reached) (pc := 99) dX3_reached_99 rfl ?_
    obtain ⟨r10, er10, hf⟩ := tq_be hf
    refine tq_getR (M := mX3_reached) (pc := 100) tk_c3 (by decide) dX3_reached_100 tk_RX3_47 rfl er10 ?_
    refine tq_iload_n (M := mX3_reached) (pc := 103) dX3_reached_103 rfl ?_
    obtain ⟨⟨⟩, eu12, hf⟩ := tq_be hf
    obtain ⟨fsu12, eu12⟩ := tq_is_s eu12
    obtain ⟨v11, ev11, hf⟩ := tq_be hf
    refine tq_calV (M := mX3_reached) (pc := 104) (S := []) tk_y_X7_get tk_v_X7_get tk_RX3_76 dX3_reached_104 [.int a2] rfl (S0 := _) rfl eu12 rfl (Nat.le_of_ble_eq_true rfl) (d1 := d - 1) (b1 := 0) (s1 := 0) (bc' := 0) (bs' := 0) (Q1 := fun r h9 => r = .inl (some (.long v11)) ∧ h = h9) (by omega) rfl rfl (w_X7_get (by omega) ev11 (fun _ _ q => q)) (fun E h9 q => nomatch (show (Sum.inr E : tq_R) = Sum.inl _ from q.1)) (fun r9 h9 q => ?_)
    obtain ⟨q1, rfl⟩ := q
    cases (show (Sum.inl r9 : tq_R) = Sum.inl (some (.long v11)) from q1)
    refine tq_aload_n (M := mX3_reached) (pc := 107) dX3_reached_107 rfl ?_
    obtain ⟨x13, ex13, hf⟩ := tq_be hf
    refine tq_getL (M := mX3_reached) (pc := 108) tk_c3 (by decide) dX3_reached_108 tk_RX3_57 rfl ex13 ?_
    refine tq_ldc2 (M := mX3_reached) (pc := 111) dX3_reached_111 tk_RX3_99 ?_
    refine tq_lxor (M := mX3_reached) (pc := 114) dX3_reached_114 ?_
    refine tq_land (M := mX3_reached) (pc := 115) dX3_reached_115 ?_
    refine tq_lret (M := mX3_reached) (pc := 116) dX3_reached_116 rfl ?_
    cases (Option.some.inj hf)
    exact hQ _ _ ⟨rfl, rfl⟩
  have hf := tq_ifn hf c3
  by_cases c4 : a1 = (4 : Int32)
  · have hf := tq_ifp hf c4
    rw [c4]
    refine tq_tabC (M := mX3_reached) (pc := 1) (tgt := 117) (4 : Int32) dX3_reached_1 (by decide +kernel) (by decide +kernel) (off := 116) (by decide +kernel) (by decide) ?_
    refine tq_aload_n (M := mX3_reached) (pc := 117) dX3_reached_117 rfl ?_
    obtain ⟨r14, er14, hf⟩ := tq_be hf
    refine tq_getR (M := mX3_reached) (pc := 118) tk_c3 (by decide) dX3_reached_118 tk_RX3_47 rfl er14 ?_
    refine tq_iload_n (M := mX3_reached) (pc := 121) dX3_reached_121 rfl ?_
    obtain ⟨⟨⟩, eu16, hf⟩ := tq_be hf
    obtain ⟨fsu16, eu16⟩ := tq_is_s eu16
    obtain ⟨v15, ev15, hf⟩ := tq_be hf
    refine tq_calV (M := mX3_reached) (pc := 122) (S := []) tk_y_X7_get tk_v_X7_get tk_RX3_76 dX3_reached_122 [.int a2] rfl (S0 := _) rfl eu16 rfl (Nat.le_of_ble_eq_true rfl) (d1 := d - 1) (b1 := 0) (s1 := 0) (bc' := 0) (bs' := 0) (Q1 := fun r h9 => r = .inl (some (.long v15)) ∧ h = h9) (by omega) rfl rfl (w_X7_get (by omega) ev15 (fun _ _ q => q)) (fun E h9 q => nomatch (show (Sum.inr E : tq_R) = Sum.inl _ from q.1)) (fun r9 h9 q => ?_)
    obtain ⟨q1, rfl⟩ := q
    cases (show (Sum.inl r9 : tq_R) = Sum.inl (some (.long v15)) from q1)
    refine tq_aload_n (M := mX3_reached) (pc := 125) dX3_reached_125 rfl ?_
    obtain ⟨x17, ex17, hf⟩ := tq_be hf
    refine tq_getL (M := mX3_reached) (pc := 126) tk_c3 (by decide) dX3_reached_126 tk_RX3_57 rfl ex17 ?_
    refine tq_ldc2 (M := mX3_reached) (pc := 129) dX3_reached_129 tk_RX3_99 ?_
    refine tq_lxor (M := mX3_reached) (pc := 132) dX3_reached_132 ?_
    refine tq_land (M := mX3_reached) (pc := 133) dX3_reached_133 ?_
    refine tq_iload_n (M := mX3_reached) (pc := 134) dX3_reached_134 rfl ?_
    obtain ⟨v18, ev18, hf⟩ := tq_be hf
    refine tq_calS (M := mX3_reached) (pc := 135) (S := [.long ((v15 &&& (x17 ^^^ (-1 : Int64))))]) tk_y_X0_one tk_s_X0_one tk_RX3_80 dX3_reached_135 [.int a2] rfl (Nat.le_of_ble_eq_true rfl) (d1 := d - 1) (b1 := 0) (s1 := 0) (bc' := 0) (bs' := 0) (Q1 := fun r h9 => r = .inl (some (.long v18)) ∧ h = h9) (by omega) rfl rfl (w_X0_one (by omega) ev18 (fun _ _ q => q)) (fun E h9 q => nomatch (show (Sum.inr E : tq_R) = Sum.inl _ from q.1)) (fun r9 h9 q => ?_)
    obtain ⟨q1, rfl⟩ := q
    cases (show (Sum.inl r9 : tq_R) = Sum.inl (some (.long v18)) from q1)
    refine tq_lor (M := mX3_reached) (pc := 138) dX3_reached_138 ?_
    refine tq_lret (M := mX3_reached) (pc := 139) dX3_reached_139 rfl ?_
    cases (Option.some.inj hf)
    exact hQ _ _ ⟨rfl, rfl⟩
  have hf := tq_ifn hf c4
  by_cases c5 : a1 = (5 : Int32)
  · have hf := tq_ifp hf c5
    rw [c5]
    refine tq_tabC (M := mX3_reached) (pc := 1) (tgt := 140) (5 : Int32) dX3_reached_1 (by decide +kernel) (by decide +kernel) (off := 139) (by decide +kernel) (by decide) ?_
    refine tq_aload_n (M := mX3_reached) (pc := 140) dX3_reached_140 rfl ?_
    obtain ⟨r19, er19, hf⟩ := tq_be hf
    refine tq_getR (M := mX3_reached) (pc := 141) tk_c3 (by decide) dX3_reached_141 tk_RX3_44 rfl er19 ?_
    refine tq_iload_n (M := mX3_reached) (pc := 144) dX3_reached_144 rfl ?_
    obtain ⟨⟨⟩, eu21, hf⟩ := tq_be hf
    obtain ⟨fsu21, eu21⟩ := tq_is_s eu21
    obtain ⟨v20, ev20, hf⟩ := tq_be hf
    refine tq_calV (M := mX3_reached) (pc := 145) (S := []) tk_y_X7_get tk_v_X7_get tk_RX3_76 dX3_reached_145 [.int a2] rfl (S0 := _) rfl eu21 rfl (Nat.le_of_ble_eq_true rfl) (d1 := d - 1) (b1 := 0) (s1 := 0) (bc' := 0) (bs' := 0) (Q1 := fun r h9 => r = .inl (some (.long v20)) ∧ h = h9) (by omega) rfl rfl (w_X7_get (by omega) ev20 (fun _ _ q => q)) (fun E h9 q => nomatch (show (Sum.inr E : tq_R) = Sum.inl _ from q.1)) (fun r9 h9 q => ?_)
    obtain ⟨q1, rfl⟩ := q
    cases (show (Sum.inl r9 : tq_R) = Sum.inl (some (.long v20)) from q1)
    refine tq_lret (M := mX3_reached) (pc := 148) dX3_reached_148 rfl ?_
    cases (Option.some.inj hf)
    exact hQ _ _ ⟨rfl, rfl⟩
  have hf := tq_ifn hf c5
  by_cases c6 : a1 = (6 : Int32)
  · have hf := tq_ifp hf c6
    rw [c6]
    refine tq_tabC (M := mX3_reached) (pc := 1) (tgt := 149) (6 : Int32) dX3_reached_1 (by decide +kernel) (by decide +kernel) (off := 148) (by decide +kernel) (by decide) ?_
    refine tq_aload_n (M := mX3_reached) (pc := 149) dX3_reached_149 rfl ?_
    obtain ⟨r22, er22, hf⟩ := tq_be hf
    refine tq_getR (M := mX3_reached) (pc := 150) tk_c3 (by decide) dX3_reached_150 tk_RX3_44 rfl er22 ?_
    refine tq_iload_n (M := mX3_reached) (pc := 153) dX3_reached_153 rfl ?_
    obtain ⟨⟨⟩, eu24, hf⟩ := tq_be hf
    obtain ⟨fsu24, eu24⟩ := tq_is_s eu24
    obtain ⟨v23, ev23, hf⟩ := tq_be hf
    refine tq_calV (M := mX3_reached) (pc := 154) (S := []) tk_y_X7_get tk_v_X7_get tk_RX3_76 dX3_reached_154 [.int a2] rfl (S0 := _) rfl eu24 rfl (Nat.le_of_ble_eq_true rfl) (d1 := d - 1) (b1 := 0) (s1 := 0) (bc' := 0) (bs' := 0) (Q1 := fun r h9 => r = .inl (some (.long v23)) ∧ h = h9) (by omega) rfl rfl (w_X7_get (by omega) ev23 (fun _ _ q => q)) (fun E h9 q => nomatch (show (Sum.inr E : tq_R) = Sum.inl _ from q.1)) (fun r9 h9 q => ?_)
    obtain ⟨q1, rfl⟩ := q
    cases (show (Sum.inl r9 : tq_R) = Sum.inl (some (.long v23)) from q1)
    refine tq_iload_n (M := mX3_reached) (pc := 157) dX3_reached_157 rfl ?_
    obtain ⟨v25, ev25, hf⟩ := tq_be hf
    refine tq_calS (M := mX3_reached) (pc := 158) (S := [.long v23]) tk_y_X0_one tk_s_X0_one tk_RX3_80 dX3_reached_158 [.int a2] rfl (Nat.le_of_ble_eq_true rfl) (d1 := d - 1) (b1 := 0) (s1 := 0) (bc' := 0) (bs' := 0) (Q1 := fun r h9 => r = .inl (some (.long v25)) ∧ h = h9) (by omega) rfl rfl (w_X0_one (by omega) ev25 (fun _ _ q => q)) (fun E h9 q => nomatch (show (Sum.inr E : tq_R) = Sum.inl _ from q.1)) (fun r9 h9 q => ?_)
    obtain ⟨q1, rfl⟩ := q
    cases (show (Sum.inl r9 : tq_R) = Sum.inl (some (.long v25)) from q1)
    refine tq_lor (M := mX3_reached) (pc := 161) dX3_reached_161 ?_
    refine tq_lret (M := mX3_reached) (pc := 162) dX3_reached_162 rfl ?_
    cases (Option.some.inj hf)
    exact hQ _ _ ⟨rfl, rfl⟩
  have hf := tq_ifn hf c6
  by_cases c7 : a1 = (7 : Int32)
  · have hf := tq_ifp hf c7
    rw [c7]
    refine tq_tabC (M := mX3_reached) (pc := 1) (tgt := 163) (7 : Int32) dX3_reached_1 (by decide +kernel) (by decide +kernel) (off := 162) (by decide +kernel) (by decide) ?_
    refine tq_aload_n (M := mX3_reached) (pc := 163) dX3_reached_163 rfl ?_
    obtain ⟨x26, ex26, hf⟩ := tq_be hf
    refine tq_getI (M := mX3_reached) (pc := 164) tk_c3 (by decide) dX3_reached_164 tk_RX3_60 rfl ex26 ?_
    obtain ⟨v27, ev27, hf⟩ := tq_be hf
    refine tq_calS (M := mX3_reached) (pc := 167) (S := []) tk_y_X0_below tk_s_X0_below tk_RX3_97 dX3_reached_167 [.int x26] rfl (Nat.le_of_ble_eq_true rfl) (d1 := d - 1) (b1 := 0) (s1 := 0) (bc' := 0) (bs' := 0) (Q1 := fun r h9 => r = .inl (some (.long v27)) ∧ h = h9) (by omega) rfl rfl (w_X0_below (by omega) ev27 (fun _ _ q => q)) (fun E h9 q => nomatch (show (Sum.inr E : tq_R) = Sum.inl _ from q.1)) (fun r9 h9 q => ?_)
    obtain ⟨q1, rfl⟩ := q
    cases (show (Sum.inl r9 : tq_R) = Sum.inl (some (.long v27)) from q1)
    refine tq_aload_n (M := mX3_reached) (pc := 170) dX3_reached_170 rfl ?_
    obtain ⟨r28, er28, hf⟩ := tq_be hf
    refine tq_getR (M := mX3_reached) (pc := 171) tk_c3 (by decide) dX3_reached_171 tk_RX3_26 rfl er28 ?_
    refine tq_iload_n (M := mX3_reached) (pc := 174) dX3_reached_174 rfl ?_
    obtain ⟨⟨⟩, eu30, hf⟩ := tq_be hf
    obtain ⟨fsu30, eu30⟩ := tq_is_s eu30
    obtain ⟨v29, ev29, hf⟩ := tq_be hf
    refine tq_calV (M := mX3_reached) (pc := 175) (S := [.long v27]) tk_y_X5_get tk_v_X5_get tk_RX3_88 dX3_reached_175 [.int a2] rfl (S0 := _) rfl eu30 rfl (Nat.le_of_ble_eq_true rfl) (d1 := d - 1) (b1 := 0) (s1 := 0) (bc' := 0) (bs' := 0) (Q1 := fun r h9 => r = .inl (some (.int v29)) ∧ h = h9) (by omega) rfl rfl (w_X5_get (by omega) ev29 (fun _ _ q => q)) (fun E h9 q => nomatch (show (Sum.inr E : tq_R) = Sum.inl _ from q.1)) (fun r9 h9 q => ?_)
    obtain ⟨q1, rfl⟩ := q
    cases (show (Sum.inl r9 : tq_R) = Sum.inl (some (.int v29)) from q1)
    obtain ⟨v31, ev31, hf⟩ := tq_be hf
    refine tq_calS (M := mX3_reached) (pc := 178) (S := [.long v27]) tk_y_X0_below tk_s_X0_below tk_RX3_97 dX3_reached_178 [.int v29] rfl (Nat.le_of_ble_eq_true rfl) (d1 := d - 1) (b1 := 0) (s1 := 0) (bc' := 0) (bs' := 0) (Q1 := fun r h9 => r = .inl (some (.long v31)) ∧ h = h9) (by omega) rfl rfl (w_X0_below (by omega) ev31 (fun _ _ q => q)) (fun E h9 q => nomatch (show (Sum.inr E : tq_R) = Sum.inl _ from q.1)) (fun r9 h9 q => ?_)
    obtain ⟨q1, rfl⟩ := q
    cases (show (Sum.inl r9 : tq_R) = Sum.inl (some (.long v31)) from q1)
    refine tq_ldc2 (M := mX3_reached) (pc := 181) dX3_reached_181 tk_RX3_99 ?_
    refine tq_lxor (M := mX3_reached) (pc := 184) dX3_reached_184 ?_
    refine tq_land (M := mX3_reached) (pc := 185) dX3_reached_185 ?_
    refine tq_aload_n (M := mX3_reached) (pc := 186) dX3_reached_186 rfl ?_
    obtain ⟨x32, ex32, hf⟩ := tq_be hf
    refine tq_getL (M := mX3_reached) (pc := 187) tk_c3 (by decide) dX3_reached_187 tk_RX3_57 rfl ex32 ?_
    refine tq_ldc2 (M := mX3_reached) (pc := 190) dX3_reached_190 tk_RX3_99 ?_
    refine tq_lxor (M := mX3_reached) (pc := 193) dX3_reached_193 ?_
    refine tq_land (M := mX3_reached) (pc := 194) dX3_reached_194 ?_
    refine tq_lret (M := mX3_reached) (pc := 195) dX3_reached_195 rfl ?_
    cases (Option.some.inj hf)
    exact hQ _ _ ⟨rfl, rfl⟩
  have hf := tq_ifn hf c7
  by_cases c8 : a1 = (8 : Int32)
  · have hf := tq_ifp hf c8
    rw [c8]
    refine tq_tabC (M := mX3_reached) (pc := 1) (tgt := 196) (8 : Int32) dX3_reached_1 (by decide +kernel) (by decide +kernel) (off := 195) (by decide +kernel) (by decide) ?_
    refine tq_iload_n (M := mX3_reached) (pc := 196) dX3_reached_196 rfl ?_
    obtain ⟨v33, ev33, hf⟩ := tq_be hf
    refine tq_calS (M := mX3_reached) (pc := 197) (S := []) tk_y_X0_below tk_s_X0_below tk_RX3_97 dX3_reached_197 [.int a2] rfl (Nat.le_of_ble_eq_true rfl) (d1 := d - 1) (b1 := 0) (s1 := 0) (bc' := 0) (bs' := 0) (Q1 := fun r h9 => r = .inl (some (.long v33)) ∧ h = h9) (by omega) rfl rfl (w_X0_below (by omega) ev33 (fun _ _ q => q)) (fun E h9 q => nomatch (show (Sum.inr E : tq_R) = Sum.inl _ from q.1)) (fun r9 h9 q => ?_)
    obtain ⟨q1, rfl⟩ := q
    cases (show (Sum.inl r9 : tq_R) = Sum.inl (some (.long v33)) from q1)
    refine tq_aload_n (M := mX3_reached) (pc := 200) dX3_reached_200 rfl ?_
    obtain ⟨x34, ex34, hf⟩ := tq_be hf
    refine tq_getL (M := mX3_reached) (pc := 201) tk_c3 (by decide) dX3_reached_201 tk_RX3_57 rfl ex34 ?_
    refine tq_ldc2 (M := mX3_reached) (pc := 204) dX3_reached_204 tk_RX3_99 ?_
    refine tq_lxor (M := mX3_reached) (pc := 207) dX3_reached_207 ?_
    refine tq_land (M := mX3_reached) (pc := 208) dX3_reached_208 ?_
    refine tq_aload_n (M := mX3_reached) (pc := 209) dX3_reached_209 rfl ?_
    obtain ⟨r35, er35, hf⟩ := tq_be hf
    refine tq_getR (M := mX3_reached) (pc := 210) tk_c3 (by decide) dX3_reached_210 tk_RX3_44 rfl er35 ?_
    refine tq_iload_n (M := mX3_reached) (pc := 213) dX3_reached_213 rfl ?_
    obtain ⟨⟨⟩, eu37, hf⟩ := tq_be hf
    obtain ⟨fsu37, eu37⟩ := tq_is_s eu37
    obtain ⟨v36, ev36, hf⟩ := tq_be hf
    refine tq_calV (M := mX3_reached) (pc := 214) (S := [.long ((v33 &&& (x34 ^^^ (-1 : Int64))))]) tk_y_X7_get tk_v_X7_get tk_RX3_76 dX3_reached_214 [.int a2] rfl (S0 := _) rfl eu37 rfl (Nat.le_of_ble_eq_true rfl) (d1 := d - 1) (b1 := 0) (s1 := 0) (bc' := 0) (bs' := 0) (Q1 := fun r h9 => r = .inl (some (.long v36)) ∧ h = h9) (by omega) rfl rfl (w_X7_get (by omega) ev36 (fun _ _ q => q)) (fun E h9 q => nomatch (show (Sum.inr E : tq_R) = Sum.inl _ from q.1)) (fun r9 h9 q => ?_)
    obtain ⟨q1, rfl⟩ := q
    cases (show (Sum.inl r9 : tq_R) = Sum.inl (some (.long v36)) from q1)
    refine tq_ldc2 (M := mX3_reached) (pc := 217) dX3_reached_217 tk_RX3_99 ?_
    refine tq_lxor (M := mX3_reached) (pc := 220) dX3_reached_220 ?_
    refine tq_land (M := mX3_reached) (pc := 221) dX3_reached_221 ?_
    refine tq_lret (M := mX3_reached) (pc := 222) dX3_reached_222 rfl ?_
    cases (Option.some.inj hf)
    exact hQ _ _ ⟨rfl, rfl⟩
  have hf := tq_ifn hf c8
  by_cases c9 : a1 = (9 : Int32)
  · have hf := tq_ifp hf c9
    rw [c9]
    refine tq_tabC (M := mX3_reached) (pc := 1) (tgt := 223) (9 : Int32) dX3_reached_1 (by decide +kernel) (by decide +kernel) (off := 222) (by decide +kernel) (by decide) ?_
    refine tq_aload_n (M := mX3_reached) (pc := 223) dX3_reached_223 rfl ?_
    obtain ⟨r38, er38, hf⟩ := tq_be hf
    refine tq_getR (M := mX3_reached) (pc := 224) tk_c3 (by decide) dX3_reached_224 tk_RX3_41 rfl er38 ?_
    refine tq_iload_n (M := mX3_reached) (pc := 227) dX3_reached_227 rfl ?_
    obtain ⟨⟨⟩, eu40, hf⟩ := tq_be hf
    obtain ⟨fsu40, eu40⟩ := tq_is_s eu40
    obtain ⟨v39, ev39, hf⟩ := tq_be hf
    refine tq_calV (M := mX3_reached) (pc := 228) (S := []) tk_y_X7_get tk_v_X7_get tk_RX3_76 dX3_reached_228 [.int a2] rfl (S0 := _) rfl eu40 rfl (Nat.le_of_ble_eq_true rfl) (d1 := d - 1) (b1 := 0) (s1 := 0) (bc' := 0) (bs' := 0) (Q1 := fun r h9 => r = .inl (some (.long v39)) ∧ h = h9) (by omega) rfl rfl (w_X7_get (by omega) ev39 (fun _ _ q => q)) (fun E h9 q => nomatch (show (Sum.inr E : tq_R) = Sum.inl _ from q.1)) (fun r9 h9 q => ?_)
    obtain ⟨q1, rfl⟩ := q
    cases (show (Sum.inl r9 : tq_R) = Sum.inl (some (.long v39)) from q1)
    refine tq_iload_n (M := mX3_reached) (pc := 231) dX3_reached_231 rfl ?_
    refine tq_iconst (M := mX3_reached) (pc := 232) dX3_reached_232 tk_ki_1 ?_
    refine tq_iadd (M := mX3_reached) (pc := 233) dX3_reached_233 ?_
    obtain ⟨v41, ev41, hf⟩ := tq_be hf
    refine tq_calS (M := mX3_reached) (pc := 234) (S := [.long v39]) tk_y_X0_below tk_s_X0_below tk_RX3_97 dX3_reached_234 [.int ((a2 + (1 : Int32)))] rfl (Nat.le_of_ble_eq_true rfl) (d1 := d - 1) (b1 := 0) (s1 := 0) (bc' := 0) (bs' := 0) (Q1 := fun r h9 => r = .inl (some (.long v41)) ∧ h = h9) (by omega) rfl rfl (w_X0_below (by omega) ev41 (fun _ _ q => q)) (fun E h9 q => nomatch (show (Sum.inr E : tq_R) = Sum.inl _ from q.1)) (fun r9 h9 q => ?_)
    obtain ⟨q1, rfl⟩ := q
    cases (show (Sum.inl r9 : tq_R) = Sum.inl (some (.long v41)) from q1)
    refine tq_ldc2 (M := mX3_reached) (pc := 237) dX3_reached_237 tk_RX3_99 ?_
    refine tq_lxor (M := mX3_reached) (pc := 240) dX3_reached_240 ?_
    refine tq_land (M := mX3_reached) (pc := 241) dX3_reached_241 ?_
    refine tq_lret (M := mX3_reached) (pc := 242) dX3_reached_242 rfl ?_
    cases (Option.some.inj hf)
    exact hQ _ _ ⟨rfl, rfl⟩
  have hf := tq_ifn hf c9
  by_cases c10 : a1 = (10 : Int32)
  · have hf := tq_ifp hf c10
    rw [c10]
    refine tq_tabC (M := mX3_reached) (pc := 1) (tgt := 243) (10 : Int32) dX3_reached_1 (by decide +kernel) (by decide +kernel) (off := 242) (by decide +kernel) (by decide) ?_
    refine tq_aload_n (M := mX3_reached) (pc := 243) dX3_reached_243 rfl ?_
    obtain ⟨r42, er42, hf⟩ := tq_be hf
    refine tq_getR (M := mX3_reached) (pc := 244) tk_c3 (by decide) dX3_reached_244 tk_RX3_41 rfl er42 ?_
    refine tq_iload_n (M := mX3_reached) (pc := 247) dX3_reached_247 rfl ?_
    obtain ⟨⟨⟩, eu44, hf⟩ := tq_be hf
    obtain ⟨fsu44, eu44⟩ := tq_is_s eu44
    obtain ⟨v43, ev43, hf⟩ := tq_be hf
    refine tq_calV (M := mX3_reached) (pc := 248) (S := []) tk_y_X7_get tk_v_X7_get tk_RX3_76 dX3_reached_248 [.int a2] rfl (S0 := _) rfl eu44 rfl (Nat.le_of_ble_eq_true rfl) (d1 := d - 1) (b1 := 0) (s1 := 0) (bc' := 0) (bs' := 0) (Q1 := fun r h9 => r = .inl (some (.long v43)) ∧ h = h9) (by omega) rfl rfl (w_X7_get (by omega) ev43 (fun _ _ q => q)) (fun E h9 q => nomatch (show (Sum.inr E : tq_R) = Sum.inl _ from q.1)) (fun r9 h9 q => ?_)
    obtain ⟨q1, rfl⟩ := q
    cases (show (Sum.inl r9 : tq_R) = Sum.inl (some (.long v43)) from q1)
    refine tq_iload_n (M := mX3_reached) (pc := 251) dX3_reached_251 rfl ?_
    obtain ⟨v45, ev45, hf⟩ := tq_be hf
    refine tq_calS (M := mX3_reached) (pc := 252) (S := [.long v43]) tk_y_X0_below tk_s_X0_below tk_RX3_97 dX3_reached_252 [.int a2] rfl (Nat.le_of_ble_eq_true rfl) (d1 := d - 1) (b1 := 0) (s1 := 0) (bc' := 0) (bs' := 0) (Q1 := fun r h9 => r = .inl (some (.long v45)) ∧ h = h9) (by omega) rfl rfl (w_X0_below (by omega) ev45 (fun _ _ q => q)) (fun E h9 q => nomatch (show (Sum.inr E : tq_R) = Sum.inl _ from q.1)) (fun r9 h9 q => ?_)
    obtain ⟨q1, rfl⟩ := q
    cases (show (Sum.inl r9 : tq_R) = Sum.inl (some (.long v45)) from q1)
    refine tq_land (M := mX3_reached) (pc := 255) dX3_reached_255 ?_
    refine tq_lret (M := mX3_reached) (pc := 256) dX3_reached_256 rfl ?_
    cases (Option.some.inj hf)
    exact hQ _ _ ⟨rfl, rfl⟩
  have hf := tq_ifn hf c10
  by_cases c11 : a1 = (11 : Int32)
  · have hf := tq_ifp hf c11
    rw [c11]
    refine tq_tabC (M := mX3_reached) (pc := 1) (tgt := 257) (11 : Int32) dX3_reached_1 (by decide +kernel) (by decide +kernel) (off := 256) (by decide +kernel) (by decide) ?_
    refine tq_aload_n (M := mX3_reached) (pc := 257) dX3_reached_257 rfl ?_
    obtain ⟨r46, er46, hf⟩ := tq_be hf
    refine tq_getR (M := mX3_reached) (pc := 258) tk_c3 (by decide) dX3_reached_258 tk_RX3_37 rfl er46 ?_
    refine tq_iload_n (M := mX3_reached) (pc := 261) dX3_reached_261 rfl ?_
    obtain ⟨⟨⟩, eu48, hf⟩ := tq_be hf
    obtain ⟨fsu48, eu48⟩ := tq_is_s eu48
    obtain ⟨v47, ev47, hf⟩ := tq_be hf
    refine tq_calV (M := mX3_reached) (pc := 262) (S := []) tk_y_X7_get tk_v_X7_get tk_RX3_76 dX3_reached_262 [.int a2] rfl (S0 := _) rfl eu48 rfl (Nat.le_of_ble_eq_true rfl) (d1 := d - 1) (b1 := 0) (s1 := 0) (bc' := 0) (bs' := 0) (Q1 := fun r h9 => r = .inl (some (.long v47)) ∧ h = h9) (by omega) rfl rfl (w_X7_get (by omega) ev47 (fun _ _ q => q)) (fun E h9 q => nomatch (show (Sum.inr E : tq_R) = Sum.inl _ from q.1)) (fun r9 h9 q => ?_)
    obtain ⟨q1, rfl⟩ := q
    cases (show (Sum.inl r9 : tq_R) = Sum.inl (some (.long v47)) from q1)
    refine tq_aload_n (M := mX3_reached) (pc := 265) dX3_reached_265 rfl ?_
    obtain ⟨x49, ex49, hf⟩ := tq_be hf
    refine tq_getL (M := mX3_reached) (pc := 266) tk_c3 (by decide) dX3_reached_266 tk_RX3_57 rfl ex49 ?_
    refine tq_land (M := mX3_reached) (pc := 269) dX3_reached_269 ?_
    refine tq_lret (M := mX3_reached) (pc := 270) dX3_reached_270 rfl ?_
    cases (Option.some.inj hf)
    exact hQ _ _ ⟨rfl, rfl⟩
  have hf := tq_ifn hf c11
  have hD := tq_far (c := a1) (n := 12) (by decide) (fun j hj => by match j, hj with
    | 0, _ => exact c0
    | 1, _ => exact c1
    | 2, _ => exact c2
    | 3, _ => exact c3
    | 4, _ => exact c4
    | 5, _ => exact c5
    | 6, _ => exact c6
    | 7, _ => exact c7
    | 8, _ => exact c8
    | 9, _ => exact c9
    | 10, _ => exact c10
    | 11, _ => exact c11
    | j + 12, hj => exact absurd hj (by omega))
  refine tq_tabD (M := mX3_reached) (pc := 1) (tgt := 271) dX3_reached_1 (by exact hD) (by decide) ?_
  refine tq_lconst (M := mX3_reached) (pc := 271) dX3_reached_271 tk_kl_0 ?_
  refine tq_lret (M := mX3_reached) (pc := 272) dX3_reached_272 rfl ?_
  cases (Option.some.inj hf)
  exact hQ _ _ ⟨rfl, rfl⟩
abbrev mX4_conditionsOf : tq_M := (RX4, cX4_conditionsOf, 2, (some .int), false, [])
def f_X4_conditionsOf (t : Nat) (a1 : Int32) (h : tq_H) : Option (Int32) :=
  (tq_gr h t 4 4).bind fun r1 =>
  (tq_is h r1 5).bind fun _ =>
  (f_X5_get r1 a1 h).bind fun v2 =>
  some v2
set_option maxHeartbeats 4000000 in
set_option maxRecDepth 20000 in
theorem w_X4_conditionsOf {l : Launch} {d : Nat} (hd9 : 1 ≤ d) {t : Nat} {a1 : Int32} {h : tq_H} {o : Int32} {Q : tq_R → tq_H → Prop} (hf : f_X4_conditionsOf t a1 h = some o) (hQ : ∀ r h9, r = .inl (some (.int o)) ∧ h = h9 → Q r h9) : tq_C l yX4_conditionsOf cX4_conditionsOf 2 (some .int) d 0 0 [.ref t, .int a1] h Q := by
  refine tq_body (y := yX4_conditionsOf) false (by decide +kernel) (fun z => by cases z) (Nat.le_of_ble_eq_true rfl) ?_
  show tq_W l mX4_conditionsOf d 0 0 Q 0 [(0, .ref t), (1, .int a1)] [] h
  refine tq_aload_n (M := mX4_conditionsOf) (pc := 0) dX4_conditionsOf_0 rfl ?_
  obtain ⟨r1, er1, hf⟩ := tq_be hf
  refine tq_getR (M := mX4_conditionsOf) (pc := 1) tk_c4 (by decide) dX4_conditionsOf_1 tk_RX4_29 rfl er1 ?_
  refine tq_iload_n (M := mX4_conditionsOf) (pc := 4) dX4_conditionsOf_4 rfl ?_
  obtain ⟨⟨⟩, eu3, hf⟩ := tq_be hf
  obtain ⟨fsu3, eu3⟩ := tq_is_s eu3
  obtain ⟨v2, ev2, hf⟩ := tq_be hf
  refine tq_calV (M := mX4_conditionsOf) (pc := 5) (S := []) tk_y_X5_get tk_v_X5_get tk_RX4_48 dX4_conditionsOf_5 [.int a1] rfl (S0 := _) rfl eu3 rfl (Nat.le_of_ble_eq_true rfl) (d1 := d - 1) (b1 := 0) (s1 := 0) (bc' := 0) (bs' := 0) (Q1 := fun r h9 => r = .inl (some (.int v2)) ∧ h = h9) (by omega) rfl rfl (w_X5_get (by omega) ev2 (fun _ _ q => q)) (fun E h9 q => nomatch (show (Sum.inr E : tq_R) = Sum.inl _ from q.1)) (fun r9 h9 q => ?_)
  obtain ⟨q1, rfl⟩ := q
  cases (show (Sum.inl r9 : tq_R) = Sum.inl (some (.int v2)) from q1)
  refine tq_iret (M := mX4_conditionsOf) (pc := 8) dX4_conditionsOf_8 rfl ?_
  cases (Option.some.inj hf)
  exact hQ _ _ ⟨rfl, rfl⟩
abbrev mX4_conditionAt : tq_M := (RX4, cX4_conditionAt, 3, (some .int), false, [])
def f_X4_conditionAt (t : Nat) (a1 : Int32) (a2 : Int32) (h : tq_H) : Option (Int32) :=
  some ((a1 * (2 : Int32)) + a2)
set_option maxHeartbeats 4000000 in
set_option maxRecDepth 20000 in
theorem w_X4_conditionAt {l : Launch} {d : Nat} (hd9 : 0 ≤ d) {t : Nat} {a1 : Int32} {a2 : Int32} {h : tq_H} {o : Int32} {Q : tq_R → tq_H → Prop} (hf : f_X4_conditionAt t a1 a2 h = some o) (hQ : ∀ r h9, r = .inl (some (.int o)) ∧ h = h9 → Q r h9) : tq_C l yX4_conditionAt cX4_conditionAt 3 (some .int) d 0 0 [.ref t, .int a1, .int a2] h Q := by
  refine tq_body (y := yX4_conditionAt) false (by decide +kernel) (fun z => by cases z) (Nat.le_of_ble_eq_true rfl) ?_
  show tq_W l mX4_conditionAt d 0 0 Q 0 [(0, .ref t), (1, .int a1), (2, .int a2)] [] h
  refine tq_iload_n (M := mX4_conditionAt) (pc := 0) dX4_conditionAt_0 rfl ?_
  refine tq_iconst (M := mX4_conditionAt) (pc := 1) dX4_conditionAt_1 tk_ki_2 ?_
  refine tq_imul (M := mX4_conditionAt) (pc := 2) dX4_conditionAt_2 ?_
  refine tq_iload_n (M := mX4_conditionAt) (pc := 3) dX4_conditionAt_3 rfl ?_
  refine tq_iadd (M := mX4_conditionAt) (pc := 4) dX4_conditionAt_4 ?_
  refine tq_iret (M := mX4_conditionAt) (pc := 5) dX4_conditionAt_5 rfl ?_
  cases (Option.some.inj hf)
  exact hQ _ _ ⟨rfl, rfl⟩
abbrev mX4_whatOf : tq_M := (RX4, cX4_whatOf, 2, (some .int), false, [])
def f_X4_whatOf (t : Nat) (a1 : Int32) (h : tq_H) : Option (Int32) :=
  (tq_gr h t 4 5).bind fun r1 =>
  (tq_is h r1 5).bind fun _ =>
  (f_X5_get r1 a1 h).bind fun v2 =>
  some v2
set_option maxHeartbeats 4000000 in
set_option maxRecDepth 20000 in
theorem w_X4_whatOf {l : Launch} {d : Nat} (hd9 : 1 ≤ d) {t : Nat} {a1 : Int32} {h : tq_H} {o : Int32} {Q : tq_R → tq_H → Prop} (hf : f_X4_whatOf t a1 h = some o) (hQ : ∀ r h9, r = .inl (some (.int o)) ∧ h = h9 → Q r h9) : tq_C l yX4_whatOf cX4_whatOf 2 (some .int) d 0 0 [.ref t, .int a1] h Q := by
  refine tq_body (y := yX4_whatOf) false (by decide +kernel) (fun z => by cases z) (Nat.le_of_ble_eq_true rfl) ?_
  show tq_W l mX4_whatOf d 0 0 Q 0 [(0, .ref t), (1, .int a1)] [] h
  refine tq_aload_n (M := mX4_whatOf) (pc := 0) dX4_whatOf_0 rfl ?_
  obtain ⟨r1, er1, hf⟩ := tq_be hf
  refine tq_getR (M := mX4_whatOf) (pc := 1) tk_c4 (by decide) dX4_whatOf_1 tk_RX4_32 rfl er1 ?_
  refine tq_iload_n (M := mX4_whatOf) (pc := 4) dX4_whatOf_4 rfl ?_
  obtain ⟨⟨⟩, eu3, hf⟩ := tq_be hf
  obtain ⟨fsu3, eu3⟩ := tq_is_s eu3
  obtain ⟨v2, ev2, hf⟩ := tq_be hf
  refine tq_calV (M := mX4_whatOf) (pc := 5) (S := []) tk_y_X5_get tk_v_X5_get tk_RX4_48 dX4_whatOf_5 [.int a1] rfl (S0 := _) rfl eu3 rfl (Nat.le_of_ble_eq_true rfl) (d1 := d - 1) (b1 := 0) (s1 := 0) (bc' := 0) (bs' := 0) (Q1 := fun r h9 => r = .inl (some (.int v2)) ∧ h = h9) (by omega) rfl rfl (w_X5_get (by omega) ev2 (fun _ _ q => q)) (fun E h9 q => nomatch (show (Sum.inr E : tq_R) = Sum.inl _ from q.1)) (fun r9 h9 q => ?_)
  obtain ⟨q1, rfl⟩ := q
  cases (show (Sum.inl r9 : tq_R) = Sum.inl (some (.int v2)) from q1)
  refine tq_iret (M := mX4_whatOf) (pc := 8) dX4_whatOf_8 rfl ?_
  cases (Option.some.inj hf)
  exact hQ _ _ ⟨rfl, rfl⟩
abbrev mX4_comparisonOf : tq_M := (RX4, cX4_comparisonOf, 2, (some .int), false, [])
def f_X4_comparisonOf (t : Nat) (a1 : Int32) (h : tq_H) : Option (Int32) :=
  (tq_gr h t 4 7).bind fun r1 =>
  (tq_is h r1 5).bind fun _ =>
  (f_X5_get r1 a1 h).bind fun v2 =>
  some v2
set_option maxHeartbeats 4000000 in
set_option maxRecDepth 20000 in
theorem w_X4_comparisonOf {l : Launch} {d : Nat} (hd9 : 1 ≤ d) {t : Nat} {a1 : Int32} {h : tq_H} {o : Int32} {Q : tq_R → tq_H → Prop} (hf : f_X4_comparisonOf t a1 h = some o) (hQ : ∀ r h9, r = .inl (some (.int o)) ∧ h = h9 → Q r h9) : tq_C l yX4_comparisonOf cX4_comparisonOf 2 (some .int) d 0 0 [.ref t, .int a1] h Q := by
  refine tq_body (y := yX4_comparisonOf) false (by decide +kernel) (fun z => by cases z) (Nat.le_of_ble_eq_true rfl) ?_
  show tq_W l mX4_comparisonOf d 0 0 Q 0 [(0, .ref t), (1, .int a1)] [] h
  refine tq_aload_n (M := mX4_comparisonOf) (pc := 0) dX4_comparisonOf_0 rfl ?_
  obtain ⟨r1, er1, hf⟩ := tq_be hf
  refine tq_getR (M := mX4_comparisonOf) (pc := 1) tk_c4 (by decide) dX4_comparisonOf_1 tk_RX4_38 rfl er1 ?_
  refine tq_iload_n (M := mX4_comparisonOf) (pc := 4) dX4_comparisonOf_4 rfl ?_
  obtain ⟨⟨⟩, eu3, hf⟩ := tq_be hf
  obtain ⟨fsu3, eu3⟩ := tq_is_s eu3
  obtain ⟨v2, ev2, hf⟩ := tq_be hf
  refine tq_calV (M := mX4_comparisonOf) (pc := 5) (S := []) tk_y_X5_get tk_v_X5_get tk_RX4_48 dX4_comparisonOf_5 [.int a1] rfl (S0 := _) rfl eu3 rfl (Nat.le_of_ble_eq_true rfl) (d1 := d - 1) (b1 := 0) (s1 := 0) (bc' := 0) (bs' := 0) (Q1 := fun r h9 => r = .inl (some (.int v2)) ∧ h = h9) (by omega) rfl rfl (w_X5_get (by omega) ev2 (fun _ _ q => q)) (fun E h9 q => nomatch (show (Sum.inr E : tq_R) = Sum.inl _ from q.1)) (fun r9 h9 q => ?_)
  obtain ⟨q1, rfl⟩ := q
  cases (show (Sum.inl r9 : tq_R) = Sum.inl (some (.int v2)) from q1)
  refine tq_iret (M := mX4_comparisonOf) (pc := 8) dX4_comparisonOf_8 rfl ?_
  cases (Option.some.inj hf)
  exact hQ _ _ ⟨rfl, rfl⟩
abbrev mX4_numberOf : tq_M := (RX4, cX4_numberOf, 2, (some .int), false, [])
def f_X4_numberOf (t : Nat) (a1 : Int32) (h : tq_H) : Option (Int32) :=
  (tq_gr h t 4 8).bind fun r1 =>
  (tq_is h r1 5).bind fun _ =>
  (f_X5_get r1 a1 h).bind fun v2 =>
  some v2
set_option maxHeartbeats 4000000 in
set_option maxRecDepth 20000 in
theorem w_X4_numberOf {l : Launch} {d : Nat} (hd9 : 1 ≤ d) {t : Nat} {a1 : Int32} {h : tq_H} {o : Int32} {Q : tq_R → tq_H → Prop} (hf : f_X4_numberOf t a1 h = some o) (hQ : ∀ r h9, r = .inl (some (.int o)) ∧ h = h9 → Q r h9) : tq_C l yX4_numberOf cX4_numberOf 2 (some .int) d 0 0 [.ref t, .int a1] h Q := by
  refine tq_body (y := yX4_numberOf) false (by decide +kernel) (fun z => by cases z) (Nat.le_of_ble_eq_true rfl) ?_
  show tq_W l mX4_numberOf d 0 0 Q 0 [(0, .ref t), (1, .int a1)] [] h
  refine tq_aload_n (M := mX4_numberOf) (pc := 0) dX4_numberOf_0 rfl ?_
  obtain ⟨r1, er1, hf⟩ := tq_be hf
  refine tq_getR (M := mX4_numberOf) (pc := 1) tk_c4 (by decide) dX4_numberOf_1 tk_RX4_41 rfl er1 ?_
  refine tq_iload_n (M := mX4_numberOf) (pc := 4) dX4_numberOf_4 rfl ?_
  obtain ⟨⟨⟩, eu3, hf⟩ := tq_be hf
  obtain ⟨fsu3, eu3⟩ := tq_is_s eu3
  obtain ⟨v2, ev2, hf⟩ := tq_be hf
  refine tq_calV (M := mX4_numberOf) (pc := 5) (S := []) tk_y_X5_get tk_v_X5_get tk_RX4_48 dX4_numberOf_5 [.int a1] rfl (S0 := _) rfl eu3 rfl (Nat.le_of_ble_eq_true rfl) (d1 := d - 1) (b1 := 0) (s1 := 0) (bc' := 0) (bs' := 0) (Q1 := fun r h9 => r = .inl (some (.int v2)) ∧ h = h9) (by omega) rfl rfl (w_X5_get (by omega) ev2 (fun _ _ q => q)) (fun E h9 q => nomatch (show (Sum.inr E : tq_R) = Sum.inl _ from q.1)) (fun r9 h9 q => ?_)
  obtain ⟨q1, rfl⟩ := q
  cases (show (Sum.inl r9 : tq_R) = Sum.inl (some (.int v2)) from q1)
  refine tq_iret (M := mX4_numberOf) (pc := 8) dX4_numberOf_8 rfl ?_
  cases (Option.some.inj hf)
  exact hQ _ _ ⟨rfl, rfl⟩
abbrev mX4_otherOf : tq_M := (RX4, cX4_otherOf, 2, (some .int), false, [])
def f_X4_otherOf (t : Nat) (a1 : Int32) (h : tq_H) : Option (Int32) :=
  (tq_gr h t 4 6).bind fun r1 =>
  (tq_is h r1 5).bind fun _ =>
  (f_X5_get r1 a1 h).bind fun v2 =>
  some v2
set_option maxHeartbeats 4000000 in
set_option maxRecDepth 20000 in
theorem w_X4_otherOf {l : Launch} {d : Nat} (hd9 : 1 ≤ d) {t : Nat} {a1 : Int32} {h : tq_H} {o : Int32} {Q : tq_R → tq_H → Prop} (hf : f_X4_otherOf t a1 h = some o) (hQ : ∀ r h9, r = .inl (some (.int o)) ∧ h = h9 → Q r h9) : tq_C l yX4_otherOf cX4_otherOf 2 (some .int) d 0 0 [.ref t, .int a1] h Q := by
  refine tq_body (y := yX4_otherOf) false (by decide +kernel) (fun z => by cases z) (Nat.le_of_ble_eq_true rfl) ?_
  show tq_W l mX4_otherOf d 0 0 Q 0 [(0, .ref t), (1, .int a1)] [] h
  refine tq_aload_n (M := mX4_otherOf) (pc := 0) dX4_otherOf_0 rfl ?_
  obtain ⟨r1, er1, hf⟩ := tq_be hf
  refine tq_getR (M := mX4_otherOf) (pc := 1) tk_c4 (by decide) dX4_otherOf_1 tk_RX4_35 rfl er1 ?_
  refine tq_iload_n (M := mX4_otherOf) (pc := 4) dX4_otherOf_4 rfl ?_
  obtain ⟨⟨⟩, eu3, hf⟩ := tq_be hf
  obtain ⟨fsu3, eu3⟩ := tq_is_s eu3
  obtain ⟨v2, ev2, hf⟩ := tq_be hf
  refine tq_calV (M := mX4_otherOf) (pc := 5) (S := []) tk_y_X5_get tk_v_X5_get tk_RX4_48 dX4_otherOf_5 [.int a1] rfl (S0 := _) rfl eu3 rfl (Nat.le_of_ble_eq_true rfl) (d1 := d - 1) (b1 := 0) (s1 := 0) (bc' := 0) (bs' := 0) (Q1 := fun r h9 => r = .inl (some (.int v2)) ∧ h = h9) (by omega) rfl rfl (w_X5_get (by omega) ev2 (fun _ _ q => q)) (fun E h9 q => nomatch (show (Sum.inr E : tq_R) = Sum.inl _ from q.1)) (fun r9 h9 q => ?_)
  obtain ⟨q1, rfl⟩ := q
  cases (show (Sum.inl r9 : tq_R) = Sum.inl (some (.int v2)) from q1)
  refine tq_iret (M := mX4_otherOf) (pc := 8) dX4_otherOf_8 rfl ?_
  cases (Option.some.inj hf)
  exact hQ _ _ ⟨rfl, rfl⟩
abbrev mX3_init : tq_M := (RX3, cX3_init, 1, none, true, [])
def f_X3_init (t : Nat) (h : tq_H) : Option (tq_H) :=
  tq_let (tq_new h (.inl (5, [.null]))) fun h1 =>
  (f_X5_init h.1 (60 : Int32) (-1 : Int32) h1).bind fun v2 =>
  (tq_pf v2 t 3 0 (.ref h.1)).bind fun h3 =>
  tq_let (tq_new h3 (.inl (5, [.null]))) fun h4 =>
  (f_X5_init h3.1 (60 : Int32) (-1 : Int32) h4).bind fun v5 =>
  (tq_pf v5 t 3 1 (.ref h3.1)).bind fun h6 =>
  tq_let (tq_new h6 (.inl (5, [.null]))) fun h7 =>
  (f_X5_init h6.1 (60 : Int32) (-1 : Int32) h7).bind fun v8 =>
  (tq_pf v8 t 3 2 (.ref h6.1)).bind fun h9 =>
  tq_let (tq_new h9 (.inl (5, [.null]))) fun h10 =>
  (f_X5_init h9.1 (60 : Int32) (0 : Int32) h10).bind fun v11 =>
  (tq_pf v11 t 3 3 (.ref h9.1)).bind fun h12 =>
  tq_let (tq_new h12 (.inl (5, [.null]))) fun h13 =>
  (f_X5_init h12.1 (60 : Int32) (-1 : Int32) h13).bind fun v14 =>
  (tq_pf v14 t 3 4 (.ref h12.1)).bind fun h15 =>
  tq_let (tq_new h15 (.inl (7, [.null]))) fun h16 =>
  (f_X7_init h15.1 (60 : Int32) h16).bind fun v17 =>
  (tq_pf v17 t 3 5 (.ref h15.1)).bind fun h18 =>
  tq_let (tq_new h18 (.inl (7, [.null]))) fun h19 =>
  (f_X7_init h18.1 (60 : Int32) h19).bind fun v20 =>
  (tq_pf v20 t 3 6 (.ref h18.1)).bind fun h21 =>
  tq_let (tq_new h21 (.inl (7, [.null]))) fun h22 =>
  (f_X7_init h21.1 (60 : Int32) h22).bind fun v23 =>
  (tq_pf v23 t 3 7 (.ref h21.1)).bind fun h24 =>
  tq_let (tq_new h24 (.inl (7, [.null]))) fun h25 =>
  (f_X7_init h24.1 (60 : Int32) h25).bind fun v26 =>
  (tq_pf v26 t 3 8 (.ref h24.1)).bind fun h27 =>
  tq_let (tq_new h27 (.inl (7, [.null]))) fun h28 =>
  (f_X7_init h27.1 (14 : Int32) h28).bind fun v29 =>
  (tq_pf v29 t 3 9 (.ref h27.1)).bind fun h30 =>
  (tq_pf h30 t 3 10 (.long (0 : Int64))).bind fun h31 =>
  (tq_pf h31 t 3 11 (.long (0 : Int64))).bind fun h32 =>
  (tq_pf h32 t 3 12 (.int (0 : Int32))).bind fun h33 =>
  some h33
set_option maxHeartbeats 4000000 in
set_option maxRecDepth 20000 in
theorem w_X3_init {l : Launch} {d : Nat} (hd9 : 2 ≤ d) {t : Nat} {h : tq_H} {o : tq_H} {Q : tq_R → tq_H → Prop} (hf : f_X3_init t h = some o) (hQ : ∀ r h9, r = .inl none ∧ o = h9 → Q r h9) : tq_C l yX3_init cX3_init 1 none d 20 564 [.ref t] h Q := by
  refine tq_body (y := yX3_init) true (by decide +kernel) (fun _ => rfl) (Nat.le_of_ble_eq_true rfl) ?_
  show tq_W l mX3_init d 20 564 Q 0 [(0, .ref t)] [] h
  refine tq_aload_n (M := mX3_init) (pc := 0) dX3_init_0 rfl ?_
  refine tq_objinit (M := mX3_init) (pc := 1) dX3_init_1 tk_RX3_3 tk_oi tk_oc (by omega) (Nat.le_of_ble_eq_true rfl) ?_
  refine tq_aload_n (M := mX3_init) (pc := 4) dX3_init_4 rfl ?_
  obtain ⟨h1, eh1, hf⟩ := tq_le hf
  refine tq_newo (M := mX3_init) (pc := 5) tk_c5 dX3_init_5 tk_RX3_9 tk_in5 tk_ini5 (fs := [.null]) (fun j hj => by rcases (show j = 0 by omega) with rfl <;> rfl) (fun _ => ⟨rfl, trivial⟩) (bc' := 19) (bs' := 563) rfl rfl ?_
  rw [← eh1]
  refine tq_dup (M := mX3_init) (pc := 8) dX3_init_8 rfl ?_
  refine tq_bipush (M := mX3_init) (pc := 9) dX3_init_9 tk_kb_60 ?_
  refine tq_iconst (M := mX3_init) (pc := 11) dX3_init_11 tk_ki_m1 ?_
  obtain ⟨v2, ev2, hf⟩ := tq_be hf
  refine tq_calI (M := mX3_init) (pc := 12) (S := [.ref h.1, .ref t]) tk_y_X5_init tk_v_X5_init rfl (Or.inl tk_RX3_11) dX3_init_12 [.int (60 : Int32), .int (-1 : Int32)] rfl (Nat.le_of_ble_eq_true rfl) (d1 := d - 1) (b1 := 1) (s1 := 60) (bc' := 18) (bs' := 503) (Q1 := fun r h9 => r = .inl none ∧ v2 = h9) (by omega) rfl rfl (w_X5_init (by omega) (N := 60) (by decide +kernel) (by decide +kernel) (by decide) ev2 (fun _ _ q => q)) (fun E h9 q => nomatch (show (Sum.inr E : tq_R) = Sum.inl _ from q.1)) (fun r9 h9 q => ?_)
  obtain ⟨q1, rfl⟩ := q
  cases (show (Sum.inl r9 : tq_R) = Sum.inl (none) from q1)
  obtain ⟨h3, eh3, hf⟩ := tq_be hf
  refine tq_putv (M := mX3_init) (pc := 15) tk_c3 (by decide) dX3_init_15 tk_RX3_14 rfl (Or.inr ⟨rfl, rfl⟩) eh3 (tq_nR _ _) ?_
  refine tq_aload_n (M := mX3_init) (pc := 18) dX3_init_18 rfl ?_
  obtain ⟨h4, eh4, hf⟩ := tq_le hf
  refine tq_newo (M := mX3_init) (pc := 19) tk_c5 dX3_init_19 tk_RX3_9 tk_in5 tk_ini5 (fs := [.null]) (fun j hj => by rcases (show j = 0 by omega) with rfl <;> rfl) (fun _ => ⟨rfl, trivial⟩) (bc' := 17) (bs' := 502) rfl rfl ?_
  rw [← eh4]
  refine tq_dup (M := mX3_init) (pc := 22) dX3_init_22 rfl ?_
  refine tq_bipush (M := mX3_init) (pc := 23) dX3_init_23 tk_kb_60 ?_
  refine tq_iconst (M := mX3_init) (pc := 25) dX3_init_25 tk_ki_m1 ?_
  obtain ⟨v5, ev5, hf⟩ := tq_be hf
  refine tq_calI (M := mX3_init) (pc := 26) (S := [.ref h3.1, .ref t]) tk_y_X5_init tk_v_X5_init rfl (Or.inl tk_RX3_11) dX3_init_26 [.int (60 : Int32), .int (-1 : Int32)] rfl (Nat.le_of_ble_eq_true rfl) (d1 := d - 1) (b1 := 1) (s1 := 60) (bc' := 16) (bs' := 442) (Q1 := fun r h9 => r = .inl none ∧ v5 = h9) (by omega) rfl rfl (w_X5_init (by omega) (N := 60) (by decide +kernel) (by decide +kernel) (by decide) ev5 (fun _ _ q => q)) (fun E h9 q => nomatch (show (Sum.inr E : tq_R) = Sum.inl _ from q.1)) (fun r9 h9 q => ?_)
  obtain ⟨q1, rfl⟩ := q
  cases (show (Sum.inl r9 : tq_R) = Sum.inl (none) from q1)
  obtain ⟨h6, eh6, hf⟩ := tq_be hf
  refine tq_putv (M := mX3_init) (pc := 29) tk_c3 (by decide) dX3_init_29 tk_RX3_20 rfl (Or.inr ⟨rfl, rfl⟩) eh6 (tq_nR _ _) ?_
  refine tq_aload_n (M := mX3_init) (pc := 32) dX3_init_32 rfl ?_
  obtain ⟨h7, eh7, hf⟩ := tq_le hf
  refine tq_newo (M := mX3_init) (pc := 33) tk_c5 dX3_init_33 tk_RX3_9 tk_in5 tk_ini5 (fs := [.null]) (fun j hj => by rcases (show j = 0 by omega) with rfl <;> rfl) (fun _ => ⟨rfl, trivial⟩) (bc' := 15) (bs' := 441) rfl rfl ?_
  rw [← eh7]
  refine tq_dup (M := mX3_init) (pc := 36) dX3_init_36 rfl ?_
  refine tq_bipush (M := mX3_init) (pc := 37) dX3_init_37 tk_kb_60 ?_
  refine tq_iconst (M := mX3_init) (pc := 39) dX3_init_39 tk_ki_m1 ?_
  obtain ⟨v8, ev8, hf⟩ := tq_be hf
  refine tq_calI (M := mX3_init) (pc := 40) (S := [.ref h6.1, .ref t]) tk_y_X5_init tk_v_X5_init rfl (Or.inl tk_RX3_11) dX3_init_40 [.int (60 : Int32), .int (-1 : Int32)] rfl (Nat.le_of_ble_eq_true rfl) (d1 := d - 1) (b1 := 1) (s1 := 60) (bc' := 14) (bs' := 381) (Q1 := fun r h9 => r = .inl none ∧ v8 = h9) (by omega) rfl rfl (w_X5_init (by omega) (N := 60) (by decide +kernel) (by decide +kernel) (by decide) ev8 (fun _ _ q => q)) (fun E h9 q => nomatch (show (Sum.inr E : tq_R) = Sum.inl _ from q.1)) (fun r9 h9 q => ?_)
  obtain ⟨q1, rfl⟩ := q
  cases (show (Sum.inl r9 : tq_R) = Sum.inl (none) from q1)
  obtain ⟨h9, eh9, hf⟩ := tq_be hf
  refine tq_putv (M := mX3_init) (pc := 43) tk_c3 (by decide) dX3_init_43 tk_RX3_23 rfl (Or.inr ⟨rfl, rfl⟩) eh9 (tq_nR _ _) ?_
  refine tq_aload_n (M := mX3_init) (pc := 46) dX3_init_46 rfl ?_
  obtain ⟨h10, eh10, hf⟩ := tq_le hf
  refine tq_newo (M := mX3_init) (pc := 47) tk_c5 dX3_init_47 tk_RX3_9 tk_in5 tk_ini5 (fs := [.null]) (fun j hj => by rcases (show j = 0 by omega) with rfl <;> rfl) (fun _ => ⟨rfl, trivial⟩) (bc' := 13) (bs' := 380) rfl rfl ?_
  rw [← eh10]
  refine tq_dup (M := mX3_init) (pc := 50) dX3_init_50 rfl ?_
  refine tq_bipush (M := mX3_init) (pc := 51) dX3_init_51 tk_kb_60 ?_
  refine tq_iconst (M := mX3_init) (pc := 53) dX3_init_53 tk_ki_0 ?_
  obtain ⟨v11, ev11, hf⟩ := tq_be hf
  refine tq_calI (M := mX3_init) (pc := 54) (S := [.ref h9.1, .ref t]) tk_y_X5_init tk_v_X5_init rfl (Or.inl tk_RX3_11) dX3_init_54 [.int (60 : Int32), .int (0 : Int32)] rfl (Nat.le_of_ble_eq_true rfl) (d1 := d - 1) (b1 := 1) (s1 := 60) (bc' := 12) (bs' := 320) (Q1 := fun r h9 => r = .inl none ∧ v11 = h9) (by omega) rfl rfl (w_X5_init (by omega) (N := 60) (by decide +kernel) (by decide +kernel) (by decide) ev11 (fun _ _ q => q)) (fun E h9 q => nomatch (show (Sum.inr E : tq_R) = Sum.inl _ from q.1)) (fun r9 h9 q => ?_)
  obtain ⟨q1, rfl⟩ := q
  cases (show (Sum.inl r9 : tq_R) = Sum.inl (none) from q1)
  obtain ⟨h12, eh12, hf⟩ := tq_be hf
  refine tq_putv (M := mX3_init) (pc := 57) tk_c3 (by decide) dX3_init_57 tk_RX3_26 rfl (Or.inr ⟨rfl, rfl⟩) eh12 (tq_nR _ _) ?_
  refine tq_aload_n (M := mX3_init) (pc := 60) dX3_init_60 rfl ?_
  obtain ⟨h13, eh13, hf⟩ := tq_le hf
  refine tq_newo (M := mX3_init) (pc := 61) tk_c5 dX3_init_61 tk_RX3_9 tk_in5 tk_ini5 (fs := [.null]) (fun j hj => by rcases (show j = 0 by omega) with rfl <;> rfl) (fun _ => ⟨rfl, trivial⟩) (bc' := 11) (bs' := 319) rfl rfl ?_
  rw [← eh13]
  refine tq_dup (M := mX3_init) (pc := 64) dX3_init_64 rfl ?_
  refine tq_bipush (M := mX3_init) (pc := 65) dX3_init_65 tk_kb_60 ?_
  refine tq_iconst (M := mX3_init) (pc := 67) dX3_init_67 tk_ki_m1 ?_
  obtain ⟨v14, ev14, hf⟩ := tq_be hf
  refine tq_calI (M := mX3_init) (pc := 68) (S := [.ref h12.1, .ref t]) tk_y_X5_init tk_v_X5_init rfl (Or.inl tk_RX3_11) dX3_init_68 [.int (60 : Int32), .int (-1 : Int32)] rfl (Nat.le_of_ble_eq_true rfl) (d1 := d - 1) (b1 := 1) (s1 := 60) (bc' := 10) (bs' := 259) (Q1 := fun r h9 => r = .inl none ∧ v14 = h9) (by omega) rfl rfl (w_X5_init (by omega) (N := 60) (by decide +kernel) (by decide +kernel) (by decide) ev14 (fun _ _ q => q)) (fun E h9 q => nomatch (show (Sum.inr E : tq_R) = Sum.inl _ from q.1)) (fun r9 h9 q => ?_)
  obtain ⟨q1, rfl⟩ := q
  cases (show (Sum.inl r9 : tq_R) = Sum.inl (none) from q1)
  obtain ⟨h15, eh15, hf⟩ := tq_be hf
  refine tq_putv (M := mX3_init) (pc := 71) tk_c3 (by decide) dX3_init_71 tk_RX3_29 rfl (Or.inr ⟨rfl, rfl⟩) eh15 (tq_nR _ _) ?_
  refine tq_aload_n (M := mX3_init) (pc := 74) dX3_init_74 rfl ?_
  obtain ⟨h16, eh16, hf⟩ := tq_le hf
  refine tq_newo (M := mX3_init) (pc := 75) tk_c7 dX3_init_75 tk_RX3_32 tk_in7 tk_ini7 (fs := [.null]) (fun j hj => by rcases (show j = 0 by omega) with rfl <;> rfl) (fun _ => ⟨rfl, trivial⟩) (bc' := 9) (bs' := 258) rfl rfl ?_
  rw [← eh16]
  refine tq_dup (M := mX3_init) (pc := 78) dX3_init_78 rfl ?_
  refine tq_bipush (M := mX3_init) (pc := 79) dX3_init_79 tk_kb_60 ?_
  obtain ⟨v17, ev17, hf⟩ := tq_be hf
  refine tq_calI (M := mX3_init) (pc := 81) (S := [.ref h15.1, .ref t]) tk_y_X7_init tk_v_X7_init rfl (Or.inl tk_RX3_34) dX3_init_81 [.int (60 : Int32)] rfl (Nat.le_of_ble_eq_true rfl) (d1 := d - 1) (b1 := 1) (s1 := 60) (bc' := 8) (bs' := 198) (Q1 := fun r h9 => r = .inl none ∧ v17 = h9) (by omega) rfl rfl (w_X7_init (by omega) (N := 60) (by decide +kernel) (by decide +kernel) (by decide) ev17 (fun _ _ q => q)) (fun E h9 q => nomatch (show (Sum.inr E : tq_R) = Sum.inl _ from q.1)) (fun r9 h9 q => ?_)
  obtain ⟨q1, rfl⟩ := q
  cases (show (Sum.inl r9 : tq_R) = Sum.inl (none) from q1)
  obtain ⟨h18, eh18, hf⟩ := tq_be hf
  refine tq_putv (M := mX3_init) (pc := 84) tk_c3 (by decide) dX3_init_84 tk_RX3_37 rfl (Or.inr ⟨rfl, rfl⟩) eh18 (tq_nR _ _) ?_
  refine tq_aload_n (M := mX3_init) (pc := 87) dX3_init_87 rfl ?_
  obtain ⟨h19, eh19, hf⟩ := tq_le hf
  refine tq_newo (M := mX3_init) (pc := 88) tk_c7 dX3_init_88 tk_RX3_32 tk_in7 tk_ini7 (fs := [.null]) (fun j hj => by rcases (show j = 0 by omega) with rfl <;> rfl) (fun _ => ⟨rfl, trivial⟩) (bc' := 7) (bs' := 197) rfl rfl ?_
  rw [← eh19]
  refine tq_dup (M := mX3_init) (pc := 91) dX3_init_91 rfl ?_
  refine tq_bipush (M := mX3_init) (pc := 92) dX3_init_92 tk_kb_60 ?_
  obtain ⟨v20, ev20, hf⟩ := tq_be hf
  refine tq_calI (M := mX3_init) (pc := 94) (S := [.ref h18.1, .ref t]) tk_y_X7_init tk_v_X7_init rfl (Or.inl tk_RX3_34) dX3_init_94 [.int (60 : Int32)] rfl (Nat.le_of_ble_eq_true rfl) (d1 := d - 1) (b1 := 1) (s1 := 60) (bc' := 6) (bs' := 137) (Q1 := fun r h9 => r = .inl none ∧ v20 = h9) (by omega) rfl rfl (w_X7_init (by omega) (N := 60) (by decide +kernel) (by decide +kernel) (by decide) ev20 (fun _ _ q => q)) (fun E h9 q => nomatch (show (Sum.inr E : tq_R) = Sum.inl _ from q.1)) (fun r9 h9 q => ?_)
  obtain ⟨q1, rfl⟩ := q
  cases (show (Sum.inl r9 : tq_R) = Sum.inl (none) from q1)
  obtain ⟨h21, eh21, hf⟩ := tq_be hf
  refine tq_putv (M := mX3_init) (pc := 97) tk_c3 (by decide) dX3_init_97 tk_RX3_41 rfl (Or.inr ⟨rfl, rfl⟩) eh21 (tq_nR _ _) ?_
  refine tq_aload_n (M := mX3_init) (pc := 100) dX3_init_100 rfl ?_
  obtain ⟨h22, eh22, hf⟩ := tq_le hf
  refine tq_newo (M := mX3_init) (pc := 101) tk_c7 dX3_init_101 tk_RX3_32 tk_in7 tk_ini7 (fs := [.null]) (fun j hj => by rcases (show j = 0 by omega) with rfl <;> rfl) (fun _ => ⟨rfl, trivial⟩) (bc' := 5) (bs' := 136) rfl rfl ?_
  rw [← eh22]
  refine tq_dup (M := mX3_init) (pc := 104) dX3_init_104 rfl ?_
  refine tq_bipush (M := mX3_init) (pc := 105) dX3_init_105 tk_kb_60 ?_
  obtain ⟨v23, ev23, hf⟩ := tq_be hf
  refine tq_calI (M := mX3_init) (pc := 107) (S := [.ref h21.1, .ref t]) tk_y_X7_init tk_v_X7_init rfl (Or.inl tk_RX3_34) dX3_init_107 [.int (60 : Int32)] rfl (Nat.le_of_ble_eq_true rfl) (d1 := d - 1) (b1 := 1) (s1 := 60) (bc' := 4) (bs' := 76) (Q1 := fun r h9 => r = .inl none ∧ v23 = h9) (by omega) rfl rfl (w_X7_init (by omega) (N := 60) (by decide +kernel) (by decide +kernel) (by decide) ev23 (fun _ _ q => q)) (fun E h9 q => nomatch (show (Sum.inr E : tq_R) = Sum.inl _ from q.1)) (fun r9 h9 q => ?_)
  obtain ⟨q1, rfl⟩ := q
  cases (show (Sum.inl r9 : tq_R) = Sum.inl (none) from q1)
  obtain ⟨h24, eh24, hf⟩ := tq_be hf
  refine tq_putv (M := mX3_init) (pc := 110) tk_c3 (by decide) dX3_init_110 tk_RX3_44 rfl (Or.inr ⟨rfl, rfl⟩) eh24 (tq_nR _ _) ?_
  refine tq_aload_n (M := mX3_init) (pc := 113) dX3_init_113 rfl ?_
  obtain ⟨h25, eh25, hf⟩ := tq_le hf
  refine tq_newo (M := mX3_init) (pc := 114) tk_c7 dX3_init_114 tk_RX3_32 tk_in7 tk_ini7 (fs := [.null]) (fun j hj => by rcases (show j = 0 by omega) with rfl <;> rfl) (fun _ => ⟨rfl, trivial⟩) (bc' := 3) (bs' := 75) rfl rfl ?_
  rw [← eh25]
  refine tq_dup (M := mX3_init) (pc := 117) dX3_init_117 rfl ?_
  refine tq_bipush (M := mX3_init) (pc := 118) dX3_init_118 tk_kb_60 ?_
  obtain ⟨v26, ev26, hf⟩ := tq_be hf
  refine tq_calI (M := mX3_init) (pc := 120) (S := [.ref h24.1, .ref t]) tk_y_X7_init tk_v_X7_init rfl (Or.inl tk_RX3_34) dX3_init_120 [.int (60 : Int32)] rfl (Nat.le_of_ble_eq_true rfl) (d1 := d - 1) (b1 := 1) (s1 := 60) (bc' := 2) (bs' := 15) (Q1 := fun r h9 => r = .inl none ∧ v26 = h9) (by omega) rfl rfl (w_X7_init (by omega) (N := 60) (by decide +kernel) (by decide +kernel) (by decide) ev26 (fun _ _ q => q)) (fun E h9 q => nomatch (show (Sum.inr E : tq_R) = Sum.inl _ from q.1)) (fun r9 h9 q => ?_)
  obtain ⟨q1, rfl⟩ := q
  cases (show (Sum.inl r9 : tq_R) = Sum.inl (none) from q1)
  obtain ⟨h27, eh27, hf⟩ := tq_be hf
  refine tq_putv (M := mX3_init) (pc := 123) tk_c3 (by decide) dX3_init_123 tk_RX3_47 rfl (Or.inr ⟨rfl, rfl⟩) eh27 (tq_nR _ _) ?_
  refine tq_aload_n (M := mX3_init) (pc := 126) dX3_init_126 rfl ?_
  obtain ⟨h28, eh28, hf⟩ := tq_le hf
  refine tq_newo (M := mX3_init) (pc := 127) tk_c7 dX3_init_127 tk_RX3_32 tk_in7 tk_ini7 (fs := [.null]) (fun j hj => by rcases (show j = 0 by omega) with rfl <;> rfl) (fun _ => ⟨rfl, trivial⟩) (bc' := 1) (bs' := 14) rfl rfl ?_
  rw [← eh28]
  refine tq_dup (M := mX3_init) (pc := 130) dX3_init_130 rfl ?_
  refine tq_bipush (M := mX3_init) (pc := 131) dX3_init_131 tk_kb_14 ?_
  obtain ⟨v29, ev29, hf⟩ := tq_be hf
  refine tq_calI (M := mX3_init) (pc := 133) (S := [.ref h27.1, .ref t]) tk_y_X7_init tk_v_X7_init rfl (Or.inl tk_RX3_34) dX3_init_133 [.int (14 : Int32)] rfl (Nat.le_of_ble_eq_true rfl) (d1 := d - 1) (b1 := 1) (s1 := 14) (bc' := 0) (bs' := 0) (Q1 := fun r h9 => r = .inl none ∧ v29 = h9) (by omega) rfl rfl (w_X7_init (by omega) (N := 14) (by decide +kernel) (by decide +kernel) (by decide) ev29 (fun _ _ q => q)) (fun E h9 q => nomatch (show (Sum.inr E : tq_R) = Sum.inl _ from q.1)) (fun r9 h9 q => ?_)
  obtain ⟨q1, rfl⟩ := q
  cases (show (Sum.inl r9 : tq_R) = Sum.inl (none) from q1)
  obtain ⟨h30, eh30, hf⟩ := tq_be hf
  refine tq_putv (M := mX3_init) (pc := 136) tk_c3 (by decide) dX3_init_136 tk_RX3_50 rfl (Or.inr ⟨rfl, rfl⟩) eh30 (tq_nR _ _) ?_
  refine tq_aload_n (M := mX3_init) (pc := 139) dX3_init_139 rfl ?_
  refine tq_lconst (M := mX3_init) (pc := 140) dX3_init_140 tk_kl_0 ?_
  obtain ⟨h31, eh31, hf⟩ := tq_be hf
  refine tq_putv (M := mX3_init) (pc := 141) tk_c3 (by decide) dX3_init_141 tk_RX3_53 rfl (Or.inl rfl) eh31 (tq_nL _) ?_
  refine tq_aload_n (M := mX3_init) (pc := 144) dX3_init_144 rfl ?_
  refine tq_lconst (M := mX3_init) (pc := 145) dX3_init_145 tk_kl_0 ?_
  obtain ⟨h32, eh32, hf⟩ := tq_be hf
  refine tq_putv (M := mX3_init) (pc := 146) tk_c3 (by decide) dX3_init_146 tk_RX3_57 rfl (Or.inl rfl) eh32 (tq_nL _) ?_
  refine tq_aload_n (M := mX3_init) (pc := 149) dX3_init_149 rfl ?_
  refine tq_iconst (M := mX3_init) (pc := 150) dX3_init_150 tk_ki_0 ?_
  obtain ⟨h33, eh33, hf⟩ := tq_be hf
  refine tq_putv (M := mX3_init) (pc := 151) tk_c3 (by decide) dX3_init_151 tk_RX3_60 rfl (Or.inl rfl) eh33 (tq_nI _) ?_
  refine tq_vret (M := mX3_init) (pc := 154) dX3_init_154 rfl ?_
  cases (Option.some.inj hf)
  exact hQ _ _ ⟨rfl, rfl⟩
abbrev mX3_clear : tq_M := (RX3, cX3_clear, 1, none, false, [])
def f_X3_clear (t : Nat) (h : tq_H) : Option (tq_H) :=
  (tq_gr h t 3 1).bind fun r1 =>
  (tq_is h r1 5).bind fun _ =>
  (f_X5_setAll r1 (-1 : Int32) h).bind fun v2 =>
  (tq_gr v2 t 3 5).bind fun r4 =>
  (tq_is v2 r4 7).bind fun _ =>
  (f_X7_emptyAll r4 v2).bind fun v5 =>
  (tq_gr v5 t 3 9).bind fun r7 =>
  (tq_is v5 r7 7).bind fun _ =>
  (f_X7_emptyAll r7 v5).bind fun v8 =>
  (tq_pf v8 t 3 10 (.long (0 : Int64))).bind fun h10 =>
  (tq_pf h10 t 3 11 (.long (0 : Int64))).bind fun h11 =>
  (tq_pf h11 t 3 12 (.int (0 : Int32))).bind fun h12 =>
  some h12
set_option maxHeartbeats 4000000 in
set_option maxRecDepth 20000 in
theorem w_X3_clear {l : Launch} {d : Nat} (hd9 : 2 ≤ d) {t : Nat} {h : tq_H} {o : tq_H} {Q : tq_R → tq_H → Prop} (hf : f_X3_clear t h = some o) (hQ : ∀ r h9, r = .inl none ∧ o = h9 → Q r h9) : tq_C l yX3_clear cX3_clear 1 none d 0 0 [.ref t] h Q := by
  refine tq_body (y := yX3_clear) false (by decide +kernel) (fun z => by cases z) (Nat.le_of_ble_eq_true rfl) ?_
  show tq_W l mX3_clear d 0 0 Q 0 [(0, .ref t)] [] h
  refine tq_aload_n (M := mX3_clear) (pc := 0) dX3_clear_0 rfl ?_
  obtain ⟨r1, er1, hf⟩ := tq_be hf
  refine tq_getR (M := mX3_clear) (pc := 1) tk_c3 (by decide) dX3_clear_1 tk_RX3_20 rfl er1 ?_
  refine tq_iconst (M := mX3_clear) (pc := 4) dX3_clear_4 tk_ki_m1 ?_
  obtain ⟨⟨⟩, eu3, hf⟩ := tq_be hf
  obtain ⟨fsu3, eu3⟩ := tq_is_s eu3
  obtain ⟨v2, ev2, hf⟩ := tq_be hf
  refine tq_calV (M := mX3_clear) (pc := 5) (S := []) tk_y_X5_setAll tk_v_X5_setAll tk_RX3_64 dX3_clear_5 [.int (-1 : Int32)] rfl (S0 := _) rfl eu3 rfl (Nat.le_of_ble_eq_true rfl) (d1 := d - 1) (b1 := 0) (s1 := 0) (bc' := 0) (bs' := 0) (Q1 := fun r h9 => r = .inl none ∧ v2 = h9) (by omega) rfl rfl (w_X5_setAll (by omega) ev2 (fun _ _ q => q)) (fun E h9 q => nomatch (show (Sum.inr E : tq_R) = Sum.inl _ from q.1)) (fun r9 h9 q => ?_)
  obtain ⟨q1, rfl⟩ := q
  cases (show (Sum.inl r9 : tq_R) = Sum.inl (none) from q1)
  refine tq_aload_n (M := mX3_clear) (pc := 8) dX3_clear_8 rfl ?_
  obtain ⟨r4, er4, hf⟩ := tq_be hf
  refine tq_getR (M := mX3_clear) (pc := 9) tk_c3 (by decide) dX3_clear_9 tk_RX3_37 rfl er4 ?_
  obtain ⟨⟨⟩, eu6, hf⟩ := tq_be hf
  obtain ⟨fsu6, eu6⟩ := tq_is_s eu6
  obtain ⟨v5, ev5, hf⟩ := tq_be hf
  refine tq_calV (M := mX3_clear) (pc := 12) (S := []) tk_y_X7_emptyAll tk_v_X7_emptyAll tk_RX3_67 dX3_clear_12 [] rfl (S0 := _) rfl eu6 rfl (Nat.le_of_ble_eq_true rfl) (d1 := d - 1) (b1 := 0) (s1 := 0) (bc' := 0) (bs' := 0) (Q1 := fun r h9 => r = .inl none ∧ v5 = h9) (by omega) rfl rfl (w_X7_emptyAll (by omega) ev5 (fun _ _ q => q)) (fun E h9 q => nomatch (show (Sum.inr E : tq_R) = Sum.inl _ from q.1)) (fun r9 h9 q => ?_)
  obtain ⟨q1, rfl⟩ := q
  cases (show (Sum.inl r9 : tq_R) = Sum.inl (none) from q1)
  refine tq_aload_n (M := mX3_clear) (pc := 15) dX3_clear_15 rfl ?_
  obtain ⟨r7, er7, hf⟩ := tq_be hf
  refine tq_getR (M := mX3_clear) (pc := 16) tk_c3 (by decide) dX3_clear_16 tk_RX3_50 rfl er7 ?_
  obtain ⟨⟨⟩, eu9, hf⟩ := tq_be hf
  obtain ⟨fsu9, eu9⟩ := tq_is_s eu9
  obtain ⟨v8, ev8, hf⟩ := tq_be hf
  refine tq_calV (M := mX3_clear) (pc := 19) (S := []) tk_y_X7_emptyAll tk_v_X7_emptyAll tk_RX3_67 dX3_clear_19 [] rfl (S0 := _) rfl eu9 rfl (Nat.le_of_ble_eq_true rfl) (d1 := d - 1) (b1 := 0) (s1 := 0) (bc' := 0) (bs' := 0) (Q1 := fun r h9 => r = .inl none ∧ v8 = h9) (by omega) rfl rfl (w_X7_emptyAll (by omega) ev8 (fun _ _ q => q)) (fun E h9 q => nomatch (show (Sum.inr E : tq_R) = Sum.inl _ from q.1)) (fun r9 h9 q => ?_)
  obtain ⟨q1, rfl⟩ := q
  cases (show (Sum.inl r9 : tq_R) = Sum.inl (none) from q1)
  refine tq_aload_n (M := mX3_clear) (pc := 22) dX3_clear_22 rfl ?_
  refine tq_lconst (M := mX3_clear) (pc := 23) dX3_clear_23 tk_kl_0 ?_
  obtain ⟨h10, eh10, hf⟩ := tq_be hf
  refine tq_putv (M := mX3_clear) (pc := 24) tk_c3 (by decide) dX3_clear_24 tk_RX3_53 rfl (Or.inl rfl) eh10 (tq_nL _) ?_
  refine tq_aload_n (M := mX3_clear) (pc := 27) dX3_clear_27 rfl ?_
  refine tq_lconst (M := mX3_clear) (pc := 28) dX3_clear_28 tk_kl_0 ?_
  obtain ⟨h11, eh11, hf⟩ := tq_be hf
  refine tq_putv (M := mX3_clear) (pc := 29) tk_c3 (by decide) dX3_clear_29 tk_RX3_57 rfl (Or.inl rfl) eh11 (tq_nL _) ?_
  refine tq_aload_n (M := mX3_clear) (pc := 32) dX3_clear_32 rfl ?_
  refine tq_iconst (M := mX3_clear) (pc := 33) dX3_clear_33 tk_ki_0 ?_
  obtain ⟨h12, eh12, hf⟩ := tq_be hf
  refine tq_putv (M := mX3_clear) (pc := 34) tk_c3 (by decide) dX3_clear_34 tk_RX3_60 rfl (Or.inl rfl) eh12 (tq_nI _) ?_
  refine tq_vret (M := mX3_clear) (pc := 37) dX3_clear_37 rfl ?_
  cases (Option.some.inj hf)
  exact hQ _ _ ⟨rfl, rfl⟩
abbrev mX3_add : tq_M := (RX3, cX3_add, 8, none, false, [])
def f_X3_add (t : Nat) (a1 : Int32) (a2 : Int32) (a3 : Int32) (a4 : Int32) (a5 : Int32) (h : tq_H) : Option (tq_H) :=
  (tq_gi h t 3 12).bind fun x1 =>
  (tq_gi h t 3 12).bind fun x2 =>
  (tq_pf h t 3 12 (.int ((x2 + (1 : Int32))))).bind fun h3 =>
  (tq_gr h3 t 3 0).bind fun r4 =>
  (tq_is h3 r4 5).bind fun _ =>
  (f_X5_set r4 x1 a1 h3).bind fun v5 =>
  (tq_gr v5 t 3 1).bind fun r7 =>
  (tq_is v5 r7 5).bind fun _ =>
  (f_X5_set r7 a1 x1 v5).bind fun v8 =>
  (tq_gr v8 t 3 2).bind fun r10 =>
  (tq_is v8 r10 5).bind fun _ =>
  (f_X5_set r10 x1 a2 v8).bind fun v11 =>
  (tq_gr v11 t 3 5).bind fun r13 =>
  (tq_is v11 r13 7).bind fun _ =>
  (f_X7_add r13 a2 x1 v11).bind fun v14 =>
  (tq_gr v14 t 3 7).bind fun r16 =>
  (tq_gr v14 t 3 7).bind fun r17 =>
  (tq_is v14 r17 7).bind fun _ =>
  (f_X7_get r17 a2 v14).bind fun v18 =>
  (f_X0_one a2 v14).bind fun v20 =>
  (tq_is v14 r16 7).bind fun _ =>
  (f_X7_set r16 x1 (v18 ||| v20) v14).bind fun v21 =>
  (tq_gr v21 t 3 3).bind fun r23 =>
  (tq_is v21 r23 5).bind fun _ =>
  (f_X5_set r23 x1 (x1 + (1 : Int32)) v21).bind fun v24 =>
  (tq_gr v24 t 3 4).bind fun r26 =>
  (tq_is v24 r26 5).bind fun _ =>
  (f_X5_set r26 x1 (-1 : Int32) v24).bind fun v27 =>
  (tq_gr v27 t 3 9).bind fun r29 =>
  (tq_is v27 r29 7).bind fun _ =>
  (f_X7_add r29 (8 : Int32) x1 v27).bind fun v30 =>
  if a3 = (1 : Int32) then
    (tq_gr v30 t 3 9).bind fun r51 =>
    (tq_is v30 r51 7).bind fun _ =>
    (f_X7_add r51 (9 : Int32) x1 v30).bind fun v52 =>
    some v52
  else
    (tq_gr v30 t 3 9).bind fun r32 =>
    (tq_is v30 r32 7).bind fun _ =>
    (f_X7_add r32 a4 x1 v30).bind fun v33 =>
    if a3 = (2 : Int32) then
      (tq_gl v33 t 3 11).bind fun x48 =>
      (f_X0_one x1 v33).bind fun v49 =>
      (tq_pf v33 t 3 11 (.long ((x48 ||| v49)))).bind fun h50 =>
      some h50
    else
      (tq_gl v33 t 3 10).bind fun x35 =>
      (f_X0_one x1 v33).bind fun v36 =>
      (tq_pf v33 t 3 10 (.long ((x35 ||| v36)))).bind fun h37 =>
      (if a5 = (-1 : Int32) then
        if a2 = (-1 : Int32) then
          some (0 : Int32)
        else
          (tq_gr h37 t 3 4).bind fun r38 =>
          (tq_is h37 r38 5).bind fun _ =>
          (f_X5_get r38 a2 h37).bind fun v39 =>
          some v39
      else
        some a5).bind fun p41 =>
      (tq_gr h37 t 3 4).bind fun r42 =>
      (tq_is h37 r42 5).bind fun _ =>
      (f_X5_set r42 x1 p41 h37).bind fun v43 =>
      (tq_gr v43 t 3 9).bind fun r45 =>
      (tq_is v43 r45 7).bind fun _ =>
      (f_X7_add r45 ((10 : Int32) + p41) x1 v43).bind fun v46 =>
      some v46
set_option maxHeartbeats 4000000 in
set_option maxRecDepth 20000 in
theorem w_X3_add {l : Launch} {d : Nat} (hd9 : 2 ≤ d) {t : Nat} {a1 : Int32} {a2 : Int32} {a3 : Int32} {a4 : Int32} {a5 : Int32} {h : tq_H} {o : tq_H} {Q : tq_R → tq_H → Prop} (hf : f_X3_add t a1 a2 a3 a4 a5 h = some o) (hQ : ∀ r h9, r = .inl none ∧ o = h9 → Q r h9) : tq_C l yX3_add cX3_add 8 none d 0 0 [.ref t, .int a1, .int a2, .int a3, .int a4, .int a5] h Q := by
  refine tq_body (y := yX3_add) false (by decide +kernel) (fun z => by cases z) (Nat.le_of_ble_eq_true rfl) ?_
  show tq_W l mX3_add d 0 0 Q 0 [(0, .ref t), (1, .int a1), (2, .int a2), (3, .int a3), (4, .int a4), (5, .int a5)] [] h
  refine tq_aload_n (M := mX3_add) (pc := 0) dX3_add_0 rfl ?_
  obtain ⟨x1, ex1, hf⟩ := tq_be hf
  refine tq_getI (M := mX3_add) (pc := 1) tk_c3 (by decide) dX3_add_1 tk_RX3_60 rfl ex1 ?_
  refine tq_istore (M := mX3_add) (pc := 4) dX3_add_4 (L2 := [(6, .int x1), (0, .ref t), (1, .int a1), (2, .int a2), (3, .int a3), (4, .int a4), (5, .int a5)]) (by decide) rfl ?_
  refine tq_aload_n (M := mX3_add) (pc := 6) dX3_add_6 rfl ?_
  refine tq_dup (M := mX3_add) (pc := 7) dX3_add_7 rfl ?_
  obtain ⟨x2, ex2, hf⟩ := tq_be hf
  refine tq_getI (M := mX3_add) (pc := 8) tk_c3 (by decide) dX3_add_8 tk_RX3_60 rfl ex2 ?_
  refine tq_iconst (M := mX3_add) (pc := 11) dX3_add_11 tk_ki_1 ?_
  refine tq_iadd (M := mX3_add) (pc := 12) dX3_add_12 ?_
  obtain ⟨h3, eh3, hf⟩ := tq_be hf
  refine tq_putv (M := mX3_add) (pc := 13) tk_c3 (by decide) dX3_add_13 tk_RX3_60 rfl (Or.inl rfl) eh3 (tq_nI _) ?_
  refine tq_aload_n (M := mX3_add) (pc := 16) dX3_add_16 rfl ?_
  obtain ⟨r4, er4, hf⟩ := tq_be hf
  refine tq_getR (M := mX3_add) (pc := 17) tk_c3 (by decide) dX3_add_17 tk_RX3_14 rfl er4 ?_
  refine tq_iload (M := mX3_add) (pc := 20) dX3_add_20 rfl ?_
  refine tq_iload_n (M := mX3_add) (pc := 22) dX3_add_22 rfl ?_
  obtain ⟨⟨⟩, eu6, hf⟩ := tq_be hf
  obtain ⟨fsu6, eu6⟩ := tq_is_s eu6
  obtain ⟨v5, ev5, hf⟩ := tq_be hf
  refine tq_calV (M := mX3_add) (pc := 23) (S := []) tk_y_X5_set tk_v_X5_set tk_RX3_70 dX3_add_23 [.int x1, .int a1] rfl (S0 := _) rfl eu6 rfl (Nat.le_of_ble_eq_true rfl) (d1 := d - 1) (b1 := 0) (s1 := 0) (bc' := 0) (bs' := 0) (Q1 := fun r h9 => r = .inl none ∧ v5 = h9) (by omega) rfl rfl (w_X5_set (by omega) ev5 (fun _ _ q => q)) (fun E h9 q => nomatch (show (Sum.inr E : tq_R) = Sum.inl _ from q.1)) (fun r9 h9 q => ?_)
  obtain ⟨q1, rfl⟩ := q
  cases (show (Sum.inl r9 : tq_R) = Sum.inl (none) from q1)
  refine tq_aload_n (M := mX3_add) (pc := 26) dX3_add_26 rfl ?_
  obtain ⟨r7, er7, hf⟩ := tq_be hf
  refine tq_getR (M := mX3_add) (pc := 27) tk_c3 (by decide) dX3_add_27 tk_RX3_20 rfl er7 ?_
  refine tq_iload_n (M := mX3_add) (pc := 30) dX3_add_30 rfl ?_
  refine tq_iload (M := mX3_add) (pc := 31) dX3_add_31 rfl ?_
  obtain ⟨⟨⟩, eu9, hf⟩ := tq_be hf
  obtain ⟨fsu9, eu9⟩ := tq_is_s eu9
  obtain ⟨v8, ev8, hf⟩ := tq_be hf
  refine tq_calV (M := mX3_add) (pc := 33) (S := []) tk_y_X5_set tk_v_X5_set tk_RX3_70 dX3_add_33 [.int a1, .int x1] rfl (S0 := _) rfl eu9 rfl (Nat.le_of_ble_eq_true rfl) (d1 := d - 1) (b1 := 0) (s1 := 0) (bc' := 0) (bs' := 0) (Q1 := fun r h9 => r = .inl none ∧ v8 = h9) (by omega) rfl rfl (w_X5_set (by omega) ev8 (fun _ _ q => q)) (fun E h9 q => nomatch (show (Sum.inr E : tq_R) = Sum.inl _ from q.1)) (fun r9 h9 q => ?_)
  obtain ⟨q1, rfl⟩ := q
  cases (show (Sum.inl r9 : tq_R) = Sum.inl (none) from q1)
  refine tq_aload_n (M := mX3_add) (pc := 36) dX3_add_36 rfl ?_
  obtain ⟨r10, er10, hf⟩ := tq_be hf
  refine tq_getR (M := mX3_add) (pc := 37) tk_c3 (by decide) dX3_add_37 tk_RX3_23 rfl er10 ?_
  refine tq_iload (M := mX3_add) (pc := 40) dX3_add_40 rfl ?_
  refine tq_iload_n (M := mX3_add) (pc := 42) dX3_add_42 rfl ?_
  obtain ⟨⟨⟩, eu12, hf⟩ := tq_be hf
  obtain ⟨fsu12, eu12⟩ := tq_is_s eu12
  obtain ⟨v11, ev11, hf⟩ := tq_be hf
  refine tq_calV (M := mX3_add) (pc := 43) (S := []) tk_y_X5_set tk_v_X5_set tk_RX3_70 dX3_add_43 [.int x1, .int a2] rfl (S0 := _) rfl eu12 rfl (Nat.le_of_ble_eq_true rfl) (d1 := d - 1) (b1 := 0) (s1 := 0) (bc' := 0) (bs' := 0) (Q1 := fun r h9 => r = .inl none ∧ v11 = h9) (by omega) rfl rfl (w_X5_set (by omega) ev11 (fun _ _ q => q)) (fun E h9 q => nomatch (show (Sum.inr E : tq_R) = Sum.inl _ from q.1)) (fun r9 h9 q => ?_)
  obtain ⟨q1, rfl⟩ := q
  cases (show (Sum.inl r9 : tq_R) = Sum.inl (none) from q1)
  refine tq_aload_n (M := mX3_add) (pc := 46) dX3_add_46 rfl ?_
  obtain ⟨r13, er13, hf⟩ := tq_be hf
  refine tq_getR (M := mX3_add) (pc := 47) tk_c3 (by decide) dX3_add_47 tk_RX3_37 rfl er13 ?_
  refine tq_iload_n (M := mX3_add) (pc := 50) dX3_add_50 rfl ?_
  refine tq_iload (M := mX3_add) (pc := 51) dX3_add_51 rfl ?_
  obtain ⟨⟨⟩, eu15, hf⟩ := tq_be hf
  obtain ⟨fsu15, eu15⟩ := tq_is_s eu15
  obtain ⟨v14, ev14, hf⟩ := tq_be hf
  refine tq_calV (M := mX3_add) (pc := 53) (S := []) tk_y_X7_add tk_v_X7_add tk_RX3_73 dX3_add_53 [.int a2, .int x1] rfl (S0 := _) rfl eu15 rfl (Nat.le_of_ble_eq_true rfl) (d1 := d - 1) (b1 := 0) (s1 := 0) (bc' := 0) (bs' := 0) (Q1 := fun r h9 => r = .inl none ∧ v14 = h9) (by omega) rfl rfl (w_X7_add (by omega) ev14 (fun _ _ q => q)) (fun E h9 q => nomatch (show (Sum.inr E : tq_R) = Sum.inl _ from q.1)) (fun r9 h9 q => ?_)
  obtain ⟨q1, rfl⟩ := q
  cases (show (Sum.inl r9 : tq_R) = Sum.inl (none) from q1)
  refine tq_aload_n (M := mX3_add) (pc := 56) dX3_add_56 rfl ?_
  obtain ⟨r16, er16, hf⟩ := tq_be hf
  refine tq_getR (M := mX3_add) (pc := 57) tk_c3 (by decide) dX3_add_57 tk_RX3_44 rfl er16 ?_
  refine tq_iload (M := mX3_add) (pc := 60) dX3_add_60 rfl ?_
  refine tq_aload_n (M := mX3_add) (pc := 62) dX3_add_62 rfl ?_
  obtain ⟨r17, er17, hf⟩ := tq_be hf
  refine tq_getR (M := mX3_add) (pc := 63) tk_c3 (by decide) dX3_add_63 tk_RX3_44 rfl er17 ?_
  refine tq_iload_n (M := mX3_add) (pc := 66) dX3_add_66 rfl ?_
  obtain ⟨⟨⟩, eu19, hf⟩ := tq_be hf
  obtain ⟨fsu19, eu19⟩ := tq_is_s eu19
  obtain ⟨v18, ev18, hf⟩ := tq_be hf
  refine tq_calV (M := mX3_add) (pc := 67) (S := [.int x1, .ref r16]) tk_y_X7_get tk_v_X7_get tk_RX3_76 dX3_add_67 [.int a2] rfl (S0 := _) rfl eu19 rfl (Nat.le_of_ble_eq_true rfl) (d1 := d - 1) (b1 := 0) (s1 := 0) (bc' := 0) (bs' := 0) (Q1 := fun r h9 => r = .inl (some (.long v18)) ∧ v14 = h9) (by omega) rfl rfl (w_X7_get (by omega) ev18 (fun _ _ q => q)) (fun E h9 q => nomatch (show (Sum.inr E : tq_R) = Sum.inl _ from q.1)) (fun r9 h9 q => ?_)
  obtain ⟨q1, rfl⟩ := q
  cases (show (Sum.inl r9 : tq_R) = Sum.inl (some (.long v18)) from q1)
  refine tq_iload_n (M := mX3_add) (pc := 70) dX3_add_70 rfl ?_
  obtain ⟨v20, ev20, hf⟩ := tq_be hf
  refine tq_calS (M := mX3_add) (pc := 71) (S := [.long v18, .int x1, .ref r16]) tk_y_X0_one tk_s_X0_one tk_RX3_80 dX3_add_71 [.int a2] rfl (Nat.le_of_ble_eq_true rfl) (d1 := d - 1) (b1 := 0) (s1 := 0) (bc' := 0) (bs' := 0) (Q1 := fun r h9 => r = .inl (some (.long v20)) ∧ v14 = h9) (by omega) rfl rfl (w_X0_one (by omega) ev20 (fun _ _ q => q)) (fun E h9 q => nomatch (show (Sum.inr E : tq_R) = Sum.inl _ from q.1)) (fun r9 h9 q => ?_)
  obtain ⟨q1, rfl⟩ := q
  cases (show (Sum.inl r9 : tq_R) = Sum.inl (some (.long v20)) from q1)
  refine tq_lor (M := mX3_add) (pc := 74) dX3_add_74 ?_
  obtain ⟨⟨⟩, eu22, hf⟩ := tq_be hf
  obtain ⟨fsu22, eu22⟩ := tq_is_s eu22
  obtain ⟨v21, ev21, hf⟩ := tq_be hf
  refine tq_calV (M := mX3_add) (pc := 75) (S := []) tk_y_X7_set tk_v_X7_set tk_RX3_85 dX3_add_75 [.int x1, .long ((v18 ||| v20))] rfl (S0 := _) rfl eu22 rfl (Nat.le_of_ble_eq_true rfl) (d1 := d - 1) (b1 := 0) (s1 := 0) (bc' := 0) (bs' := 0) (Q1 := fun r h9 => r = .inl none ∧ v21 = h9) (by omega) rfl rfl (w_X7_set (by omega) ev21 (fun _ _ q => q)) (fun E h9 q => nomatch (show (Sum.inr E : tq_R) = Sum.inl _ from q.1)) (fun r9 h9 q => ?_)
  obtain ⟨q1, rfl⟩ := q
  cases (show (Sum.inl r9 : tq_R) = Sum.inl (none) from q1)
  refine tq_aload_n (M := mX3_add) (pc := 78) dX3_add_78 rfl ?_
  obtain ⟨r23, er23, hf⟩ := tq_be hf
  refine tq_getR (M := mX3_add) (pc := 79) tk_c3 (by decide) dX3_add_79 tk_RX3_26 rfl er23 ?_
  refine tq_iload (M := mX3_add) (pc := 82) dX3_add_82 rfl ?_
  refine tq_iload (M := mX3_add) (pc := 84) dX3_add_84 rfl ?_
  refine tq_iconst (M := mX3_add) (pc := 86) dX3_add_86 tk_ki_1 ?_
  refine tq_iadd (M := mX3_add) (pc := 87) dX3_add_87 ?_
  obtain ⟨⟨⟩, eu25, hf⟩ := tq_be hf
  obtain ⟨fsu25, eu25⟩ := tq_is_s eu25
  obtain ⟨v24, ev24, hf⟩ := tq_be hf
  refine tq_calV (M := mX3_add) (pc := 88) (S := []) tk_y_X5_set tk_v_X5_set tk_RX3_70 dX3_add_88 [.int x1, .int ((x1 + (1 : Int32)))] rfl (S0 := _) rfl eu25 rfl (Nat.le_of_ble_eq_true rfl) (d1 := d - 1) (b1 := 0) (s1 := 0) (bc' := 0) (bs' := 0) (Q1 := fun r h9 => r = .inl none ∧ v24 = h9) (by omega) rfl rfl (w_X5_set (by omega) ev24 (fun _ _ q => q)) (fun E h9 q => nomatch (show (Sum.inr E : tq_R) = Sum.inl _ from q.1)) (fun r9 h9 q => ?_)
  obtain ⟨q1, rfl⟩ := q
  cases (show (Sum.inl r9 : tq_R) = Sum.inl (none) from q1)
  refine tq_aload_n (M := mX3_add) (pc := 91) dX3_add_91 rfl ?_
  obtain ⟨r26, er26, hf⟩ := tq_be hf
  refine tq_getR (M := mX3_add) (pc := 92) tk_c3 (by decide) dX3_add_92 tk_RX3_29 rfl er26 ?_
  refine tq_iload (M := mX3_add) (pc := 95) dX3_add_95 rfl ?_
  refine tq_iconst (M := mX3_add) (pc := 97) dX3_add_97 tk_ki_m1 ?_
  obtain ⟨⟨⟩, eu28, hf⟩ := tq_be hf
  obtain ⟨fsu28, eu28⟩ := tq_is_s eu28
  obtain ⟨v27, ev27, hf⟩ := tq_be hf
  refine tq_calV (M := mX3_add) (pc := 98) (S := []) tk_y_X5_set tk_v_X5_set tk_RX3_70 dX3_add_98 [.int x1, .int (-1 : Int32)] rfl (S0 := _) rfl eu28 rfl (Nat.le_of_ble_eq_true rfl) (d1 := d - 1) (b1 := 0) (s1 := 0) (bc' := 0) (bs' := 0) (Q1 := fun r h9 => r = .inl none ∧ v27 = h9) (by omega) rfl rfl (w_X5_set (by omega) ev27 (fun _ _ q => q)) (fun E h9 q => nomatch (show (Sum.inr E : tq_R) = Sum.inl _ from q.1)) (fun r9 h9 q => ?_)
  obtain ⟨q1, rfl⟩ := q
  cases (show (Sum.inl r9 : tq_R) = Sum.inl (none) from q1)
  refine tq_aload_n (M := mX3_add) (pc := 101) dX3_add_101 rfl ?_
  obtain ⟨r29, er29, hf⟩ := tq_be hf
  refine tq_getR (M := mX3_add) (pc := 102) tk_c3 (by decide) dX3_add_102 tk_RX3_50 rfl er29 ?_
  refine tq_bipush (M := mX3_add) (pc := 105) dX3_add_105 tk_kb_8 ?_
  refine tq_iload (M := mX3_add) (pc := 107) dX3_add_107 rfl ?_
  obtain ⟨⟨⟩, eu31, hf⟩ := tq_be hf
  obtain ⟨fsu31, eu31⟩ := tq_is_s eu31
  obtain ⟨v30, ev30, hf⟩ := tq_be hf
  refine tq_calV (M := mX3_add) (pc := 109) (S := []) tk_y_X7_add tk_v_X7_add tk_RX3_73 dX3_add_109 [.int (8 : Int32), .int x1] rfl (S0 := _) rfl eu31 rfl (Nat.le_of_ble_eq_true rfl) (d1 := d - 1) (b1 := 0) (s1 := 0) (bc' := 0) (bs' := 0) (Q1 := fun r h9 => r = .inl none ∧ v30 = h9) (by omega) rfl rfl (w_X7_add (by omega) ev30 (fun _ _ q => q)) (fun E h9 q => nomatch (show (Sum.inr E : tq_R) = Sum.inl _ from q.1)) (fun r9 h9 q => ?_)
  obtain ⟨q1, rfl⟩ := q
  cases (show (Sum.inl r9 : tq_R) = Sum.inl (none) from q1)
  refine tq_iload_n (M := mX3_add) (pc := 112) dX3_add_112 rfl ?_
  refine tq_iconst (M := mX3_add) (pc := 113) dX3_add_113 tk_ki_1 ?_
  refine tq_icmp_ne (M := mX3_add) (pc := 114) (tgt := 129) dX3_add_114 (by decide) (fun cc => ?_) (fun cc => ?_)
  · have hf := tq_ifn hf cc
    refine tq_aload_n (M := mX3_add) (pc := 129) dX3_add_129 rfl ?_
    obtain ⟨r32, er32, hf⟩ := tq_be hf
    refine tq_getR (M := mX3_add) (pc := 130) tk_c3 (by decide) dX3_add_130 tk_RX3_50 rfl er32 ?_
    refine tq_iload (M := mX3_add) (pc := 133) dX3_add_133 rfl ?_
    refine tq_iload (M := mX3_add) (pc := 135) dX3_add_135 rfl ?_
    obtain ⟨⟨⟩, eu34, hf⟩ := tq_be hf
    obtain ⟨fsu34, eu34⟩ := tq_is_s eu34
    obtain ⟨v33, ev33, hf⟩ := tq_be hf
    refine tq_calV (M := mX3_add) (pc := 137) (S := []) tk_y_X7_add tk_v_X7_add tk_RX3_73 dX3_add_137 [.int a4, .int x1] rfl (S0 := _) rfl eu34 rfl (Nat.le_of_ble_eq_true rfl) (d1 := d - 1) (b1 := 0) (s1 := 0) (bc' := 0) (bs' := 0) (Q1 := fun r h9 => r = .inl none ∧ v33 = h9) (by omega) rfl rfl (w_X7_add (by omega) ev33 (fun _ _ q => q)) (fun E h9 q => nomatch (show (Sum.inr E : tq_R) = Sum.inl _ from q.1)) (fun r9 h9 q => ?_)
    obtain ⟨q1, rfl⟩ := q
    cases (show (Sum.inl r9 : tq_R) = Sum.inl (none) from q1)
    refine tq_iload_n (M := mX3_add) (pc := 140) dX3_add_140 rfl ?_
    refine tq_iconst (M := mX3_add) (pc := 141) dX3_add_141 tk_ki_2 ?_
    refine tq_icmp_ne (M := mX3_add) (pc := 142) (tgt := 160) dX3_add_142 (by decide) (fun cc => ?_) (fun cc => ?_)
    · have hf := tq_ifn hf cc
      refine tq_aload_n (M := mX3_add) (pc := 160) dX3_add_160 rfl ?_
      refine tq_dup (M := mX3_add) (pc := 161) dX3_add_161 rfl ?_
      obtain ⟨x35, ex35, hf⟩ := tq_be hf
      refine tq_getL (M := mX3_add) (pc := 162) tk_c3 (by decide) dX3_add_162 tk_RX3_53 rfl ex35 ?_
      refine tq_iload (M := mX3_add) (pc := 165) dX3_add_165 rfl ?_
      obtain ⟨v36, ev36, hf⟩ := tq_be hf
      refine tq_calS (M := mX3_add) (pc := 167) (S := [.long x35, .ref t]) tk_y_X0_one tk_s_X0_one tk_RX3_80 dX3_add_167 [.int x1] rfl (Nat.le_of_ble_eq_true rfl) (d1 := d - 1) (b1 := 0) (s1 := 0) (bc' := 0) (bs' := 0) (Q1 := fun r h9 => r = .inl (some (.long v36)) ∧ v33 = h9) (by omega) rfl rfl (w_X0_one (by omega) ev36 (fun _ _ q => q)) (fun E h9 q => nomatch (show (Sum.inr E : tq_R) = Sum.inl _ from q.1)) (fun r9 h9 q => ?_)
      obtain ⟨q1, rfl⟩ := q
      cases (show (Sum.inl r9 : tq_R) = Sum.inl (some (.long v36)) from q1)
      refine tq_lor (M := mX3_add) (pc := 170) dX3_add_170 ?_
      obtain ⟨h37, eh37, hf⟩ := tq_be hf
      refine tq_putv (M := mX3_add) (pc := 171) tk_c3 (by decide) dX3_add_171 tk_RX3_53 rfl (Or.inl rfl) eh37 (tq_nL _) ?_
      refine tq_iload (M := mX3_add) (pc := 174) dX3_add_174 rfl ?_
      refine tq_iconst (M := mX3_add) (pc := 176) dX3_add_176 tk_ki_m1 ?_
      obtain ⟨p41, ep41, hf⟩ := tq_be hf
      have HJ177 : tq_W l mX3_add d 0 0 Q 202 [(0, .ref t), (6, .int x1)] [.int p41] h37 := by
        refine tq_istore (M := mX3_add) (pc := 202) dX3_add_202 (L2 := [(7, .int p41), (0, .ref t), (6, .int x1)]) (by decide) rfl ?_
        refine tq_aload_n (M := mX3_add) (pc := 204) dX3_add_204 rfl ?_
        obtain ⟨r42, er42, hf⟩ := tq_be hf
        refine tq_getR (M := mX3_add) (pc := 205) tk_c3 (by decide) dX3_add_205 tk_RX3_29 rfl er42 ?_
        refine tq_iload (M := mX3_add) (pc := 208) dX3_add_208 rfl ?_
        refine tq_iload (M := mX3_add) (pc := 210) dX3_add_210 rfl ?_
        obtain ⟨⟨⟩, eu44, hf⟩ := tq_be hf
        obtain ⟨fsu44, eu44⟩ := tq_is_s eu44
        obtain ⟨v43, ev43, hf⟩ := tq_be hf
        refine tq_calV (M := mX3_add) (pc := 212) (S := []) tk_y_X5_set tk_v_X5_set tk_RX3_70 dX3_add_212 [.int x1, .int p41] rfl (S0 := _) rfl eu44 rfl (Nat.le_of_ble_eq_true rfl) (d1 := d - 1) (b1 := 0) (s1 := 0) (bc' := 0) (bs' := 0) (Q1 := fun r h9 => r = .inl none ∧ v43 = h9) (by omega) rfl rfl (w_X5_set (by omega) ev43 (fun _ _ q => q)) (fun E h9 q => nomatch (show (Sum.inr E : tq_R) = Sum.inl _ from q.1)) (fun r9 h9 q => ?_)
        obtain ⟨q1, rfl⟩ := q
        cases (show (Sum.inl r9 : tq_R) = Sum.inl (none) from q1)
        refine tq_aload_n (M := mX3_add) (pc := 215) dX3_add_215 rfl ?_
        obtain ⟨r45, er45, hf⟩ := tq_be hf
        refine tq_getR (M := mX3_add) (pc := 216) tk_c3 (by decide) dX3_add_216 tk_RX3_50 rfl er45 ?_
        refine tq_bipush (M := mX3_add) (pc := 219) dX3_add_219 tk_kb_10 ?_
        refine tq_iload (M := mX3_add) (pc := 221) dX3_add_221 rfl ?_
        refine tq_iadd (M := mX3_add) (pc := 223) dX3_add_223 ?_
        refine tq_iload (M := mX3_add) (pc := 224) dX3_add_224 rfl ?_
        obtain ⟨⟨⟩, eu47, hf⟩ := tq_be hf
        obtain ⟨fsu47, eu47⟩ := tq_is_s eu47
        obtain ⟨v46, ev46, hf⟩ := tq_be hf
        refine tq_calV (M := mX3_add) (pc := 226) (S := []) tk_y_X7_add tk_v_X7_add tk_RX3_73 dX3_add_226 [.int (((10 : Int32) + p41)), .int x1] rfl (S0 := _) rfl eu47 rfl (Nat.le_of_ble_eq_true rfl) (d1 := d - 1) (b1 := 0) (s1 := 0) (bc' := 0) (bs' := 0) (Q1 := fun r h9 => r = .inl none ∧ v46 = h9) (by omega) rfl rfl (w_X7_add (by omega) ev46 (fun _ _ q => q)) (fun E h9 q => nomatch (show (Sum.inr E : tq_R) = Sum.inl _ from q.1)) (fun r9 h9 q => ?_)
        obtain ⟨q1, rfl⟩ := q
        cases (show (Sum.inl r9 : tq_R) = Sum.inl (none) from q1)
        refine tq_vret (M := mX3_add) (pc := 229) dX3_add_229 rfl ?_
        cases (Option.some.inj hf)
        exact hQ _ _ ⟨rfl, rfl⟩
      refine tq_icmp_eq (M := mX3_add) (pc := 177) (tgt := 185) dX3_add_177 (by decide) (fun cc => ?_) (fun cc => ?_)
      · have hf := tq_ifp ep41 cc
        refine tq_iload_n (M := mX3_add) (pc := 185) dX3_add_185 rfl ?_
        refine tq_iconst (M := mX3_add) (pc := 186) dX3_add_186 tk_ki_m1 ?_
        refine tq_icmp_eq (M := mX3_add) (pc := 187) (tgt := 201) dX3_add_187 (by decide) (fun cc => ?_) (fun cc => ?_)
        · have hf := tq_ifp hf cc
          refine tq_iconst (M := mX3_add) (pc := 201) dX3_add_201 tk_ki_0 ?_
          refine tq_pick (L2 := [(0, .ref t), (6, .int x1)]) [1, 0] rfl ?_
          cases (Option.some.inj hf)
          exact HJ177
        · have hf := tq_ifn hf cc
          refine tq_aload_n (M := mX3_add) (pc := 190) dX3_add_190 rfl ?_
          obtain ⟨r38, er38, hf⟩ := tq_be hf
          refine tq_getR (M := mX3_add) (pc := 191) tk_c3 (by decide) dX3_add_191 tk_RX3_29 rfl er38 ?_
          refine tq_iload_n (M := mX3_add) (pc := 194) dX3_add_194 rfl ?_
          obtain ⟨⟨⟩, eu40, hf⟩ := tq_be hf
          obtain ⟨fsu40, eu40⟩ := tq_is_s eu40
          obtain ⟨v39, ev39, hf⟩ := tq_be hf
          refine tq_calV (M := mX3_add) (pc := 195) (S := []) tk_y_X5_get tk_v_X5_get tk_RX3_88 dX3_add_195 [.int a2] rfl (S0 := _) rfl eu40 rfl (Nat.le_of_ble_eq_true rfl) (d1 := d - 1) (b1 := 0) (s1 := 0) (bc' := 0) (bs' := 0) (Q1 := fun r h9 => r = .inl (some (.int v39)) ∧ h37 = h9) (by omega) rfl rfl (w_X5_get (by omega) ev39 (fun _ _ q => q)) (fun E h9 q => nomatch (show (Sum.inr E : tq_R) = Sum.inl _ from q.1)) (fun r9 h9 q => ?_)
          obtain ⟨q1, rfl⟩ := q
          cases (show (Sum.inl r9 : tq_R) = Sum.inl (some (.int v39)) from q1)
          refine tq_goto (M := mX3_add) (pc := 198) (tgt := 202) dX3_add_198 (by decide) ?_
          refine tq_pick (L2 := [(0, .ref t), (6, .int x1)]) [1, 0] rfl ?_
          cases (Option.some.inj hf)
          exact HJ177
      · have hf := tq_ifn ep41 cc
        refine tq_iload (M := mX3_add) (pc := 180) dX3_add_180 rfl ?_
        refine tq_goto (M := mX3_add) (pc := 182) (tgt := 202) dX3_add_182 (by decide) ?_
        refine tq_pick (L2 := [(0, .ref t), (6, .int x1)]) [1, 0] rfl ?_
        cases (Option.some.inj hf)
        exact HJ177
    · have hf := tq_ifp hf cc
      refine tq_aload_n (M := mX3_add) (pc := 145) dX3_add_145 rfl ?_
      refine tq_dup (M := mX3_add) (pc := 146) dX3_add_146 rfl ?_
      obtain ⟨x48, ex48, hf⟩ := tq_be hf
      refine tq_getL (M := mX3_add) (pc := 147) tk_c3 (by decide) dX3_add_147 tk_RX3_57 rfl ex48 ?_
      refine tq_iload (M := mX3_add) (pc := 150) dX3_add_150 rfl ?_
      obtain ⟨v49, ev49, hf⟩ := tq_be hf
      refine tq_calS (M := mX3_add) (pc := 152) (S := [.long x48, .ref t]) tk_y_X0_one tk_s_X0_one tk_RX3_80 dX3_add_152 [.int x1] rfl (Nat.le_of_ble_eq_true rfl) (d1 := d - 1) (b1 := 0) (s1 := 0) (bc' := 0) (bs' := 0) (Q1 := fun r h9 => r = .inl (some (.long v49)) ∧ v33 = h9) (by omega) rfl rfl (w_X0_one (by omega) ev49 (fun _ _ q => q)) (fun E h9 q => nomatch (show (Sum.inr E : tq_R) = Sum.inl _ from q.1)) (fun r9 h9 q => ?_)
      obtain ⟨q1, rfl⟩ := q
      cases (show (Sum.inl r9 : tq_R) = Sum.inl (some (.long v49)) from q1)
      refine tq_lor (M := mX3_add) (pc := 155) dX3_add_155 ?_
      obtain ⟨h50, eh50, hf⟩ := tq_be hf
      refine tq_putv (M := mX3_add) (pc := 156) tk_c3 (by decide) dX3_add_156 tk_RX3_57 rfl (Or.inl rfl) eh50 (tq_nL _) ?_
      refine tq_vret (M := mX3_add) (pc := 159) dX3_add_159 rfl ?_
      cases (Option.some.inj hf)
      exact hQ _ _ ⟨rfl, rfl⟩
  · have hf := tq_ifp hf cc
    refine tq_aload_n (M := mX3_add) (pc := 117) dX3_add_117 rfl ?_
    obtain ⟨r51, er51, hf⟩ := tq_be hf
    refine tq_getR (M := mX3_add) (pc := 118) tk_c3 (by decide) dX3_add_118 tk_RX3_50 rfl er51 ?_
    refine tq_bipush (M := mX3_add) (pc := 121) dX3_add_121 tk_kb_9 ?_
    refine tq_iload (M := mX3_add) (pc := 123) dX3_add_123 rfl ?_
    obtain ⟨⟨⟩, eu53, hf⟩ := tq_be hf
    obtain ⟨fsu53, eu53⟩ := tq_is_s eu53
    obtain ⟨v52, ev52, hf⟩ := tq_be hf
    refine tq_calV (M := mX3_add) (pc := 125) (S := []) tk_y_X7_add tk_v_X7_add tk_RX3_73 dX3_add_125 [.int (9 : Int32), .int x1] rfl (S0 := _) rfl eu53 rfl (Nat.le_of_ble_eq_true rfl) (d1 := d - 1) (b1 := 0) (s1 := 0) (bc' := 0) (bs' := 0) (Q1 := fun r h9 => r = .inl none ∧ v52 = h9) (by omega) rfl rfl (w_X7_add (by omega) ev52 (fun _ _ q => q)) (fun E h9 q => nomatch (show (Sum.inr E : tq_R) = Sum.inl _ from q.1)) (fun r9 h9 q => ?_)
    obtain ⟨q1, rfl⟩ := q
    cases (show (Sum.inl r9 : tq_R) = Sum.inl (none) from q1)
    refine tq_vret (M := mX3_add) (pc := 128) dX3_add_128 rfl ?_
    cases (Option.some.inj hf)
    exact hQ _ _ ⟨rfl, rfl⟩
abbrev mX3_children : tq_M := (RX3, cX3_children, 2, (some .long), false, [])
def f_X3_children (t : Nat) (a1 : Int32) (h : tq_H) : Option (Int64) :=
  (tq_gr h t 3 5).bind fun r1 =>
  (tq_is h r1 7).bind fun _ =>
  (f_X7_get r1 a1 h).bind fun v2 =>
  (tq_gl h t 3 11).bind fun x4 =>
  some (v2 &&& (x4 ^^^ (-1 : Int64)))
set_option maxHeartbeats 4000000 in
set_option maxRecDepth 20000 in
theorem w_X3_children {l : Launch} {d : Nat} (hd9 : 1 ≤ d) {t : Nat} {a1 : Int32} {h : tq_H} {o : Int64} {Q : tq_R → tq_H → Prop} (hf : f_X3_children t a1 h = some o) (hQ : ∀ r h9, r = .inl (some (.long o)) ∧ h = h9 → Q r h9) : tq_C l yX3_children cX3_children 2 (some .long) d 0 0 [.ref t, .int a1] h Q := by
  refine tq_body (y := yX3_children) false (by decide +kernel) (fun z => by cases z) (Nat.le_of_ble_eq_true rfl) ?_
  show tq_W l mX3_children d 0 0 Q 0 [(0, .ref t), (1, .int a1)] [] h
  refine tq_aload_n (M := mX3_children) (pc := 0) dX3_children_0 rfl ?_
  obtain ⟨r1, er1, hf⟩ := tq_be hf
  refine tq_getR (M := mX3_children) (pc := 1) tk_c3 (by decide) dX3_children_1 tk_RX3_37 rfl er1 ?_
  refine tq_iload_n (M := mX3_children) (pc := 4) dX3_children_4 rfl ?_
  obtain ⟨⟨⟩, eu3, hf⟩ := tq_be hf
  obtain ⟨fsu3, eu3⟩ := tq_is_s eu3
  obtain ⟨v2, ev2, hf⟩ := tq_be hf
  refine tq_calV (M := mX3_children) (pc := 5) (S := []) tk_y_X7_get tk_v_X7_get tk_RX3_76 dX3_children_5 [.int a1] rfl (S0 := _) rfl eu3 rfl (Nat.le_of_ble_eq_true rfl) (d1 := d - 1) (b1 := 0) (s1 := 0) (bc' := 0) (bs' := 0) (Q1 := fun r h9 => r = .inl (some (.long v2)) ∧ h = h9) (by omega) rfl rfl (w_X7_get (by omega) ev2 (fun _ _ q => q)) (fun E h9 q => nomatch (show (Sum.inr E : tq_R) = Sum.inl _ from q.1)) (fun r9 h9 q => ?_)
  obtain ⟨q1, rfl⟩ := q
  cases (show (Sum.inl r9 : tq_R) = Sum.inl (some (.long v2)) from q1)
  refine tq_aload_n (M := mX3_children) (pc := 8) dX3_children_8 rfl ?_
  obtain ⟨x4, ex4, hf⟩ := tq_be hf
  refine tq_getL (M := mX3_children) (pc := 9) tk_c3 (by decide) dX3_children_9 tk_RX3_57 rfl ex4 ?_
  refine tq_ldc2 (M := mX3_children) (pc := 12) dX3_children_12 tk_RX3_99 ?_
  refine tq_lxor (M := mX3_children) (pc := 15) dX3_children_15 ?_
  refine tq_land (M := mX3_children) (pc := 16) dX3_children_16 ?_
  refine tq_lret (M := mX3_children) (pc := 17) dX3_children_17 rfl ?_
  cases (Option.some.inj hf)
  exact hQ _ _ ⟨rfl, rfl⟩
abbrev mX3_close : tq_M := (RX3, cX3_close, 3, none, false, [])
def f_X3_close_b7 (i0 : Nat) (s : Int32 × tq_H) : Option ((Int32 × tq_H) ⊕ (tq_H)) := match s with
  | (y1, hh) =>
    if y1 < 0 then
      some (.inr hh)
    else
      (tq_gr hh i0 3 2).bind fun r3 =>
      (tq_is hh r3 5).bind fun _ =>
      (f_X5_get r3 y1 hh).bind fun v4 =>
      (tq_gr hh i0 3 3).bind fun r6 =>
      (tq_gr hh i0 3 3).bind fun r7 =>
      (tq_is hh r7 5).bind fun _ =>
      (f_X5_get r7 v4 hh).bind fun v8 =>
      (tq_gr hh i0 3 3).bind fun r10 =>
      (tq_is hh r10 5).bind fun _ =>
      (f_X5_get r10 y1 hh).bind fun v11 =>
      (tq_is hh r6 5).bind fun _ =>
      (f_X5_set r6 v4 (if v8 < v11 then v11 else v8) hh).bind fun v13 =>
      (tq_gr v13 i0 3 8).bind fun r15 =>
      (tq_gr v13 i0 3 3).bind fun r16 =>
      (tq_is v13 r16 5).bind fun _ =>
      (f_X5_get r16 y1 v13).bind fun v17 =>
      (f_X0_below v17 v13).bind fun v19 =>
      (f_X0_below (y1 + (1 : Int32)) v13).bind fun v20 =>
      (tq_is v13 r15 7).bind fun _ =>
      (f_X7_set r15 y1 (v19 &&& (v20 ^^^ (-1 : Int64))) v13).bind fun v21 =>
      (tq_gr v21 i0 3 6).bind fun r23 =>
      (tq_gl v21 i0 3 11).bind fun x24 =>
      (f_X0_holds x24 y1 v21).bind fun v25 =>
      (if v25 = 0 then
        (tq_is v21 i0 3).bind fun _ =>
        (f_X3_children i0 v4 v21).bind fun v26 =>
        some v26
      else
        some (0 : Int64)).bind fun p28 =>
      (tq_is v21 r23 7).bind fun _ =>
      (f_X7_set r23 y1 p28 v21).bind fun v29 =>
      tq_let (y1 + (-1 : Int32)) fun x31 =>
      some (.inl (x31, v29))
def f_X3_close (t : Nat) (h : tq_H) : Option (tq_H) :=
  (tq_gi h t 3 12).bind fun x1 =>
  tq_let ((x1 - (1 : Int32))) fun x2 =>
  (tq_loop (f_X3_close_b7 t) tq_N (x2, h)).bind fun o32 =>
  some o32
set_option maxHeartbeats 4000000 in
theorem l_X3_close_7 {l : Launch} {d : Nat} {Q : tq_R → tq_H → Prop} (hd9 : 2 ≤ d) (i0 : Nat) : ∀ (n : Nat) (y1 : Int32) (hh : tq_H) (o : tq_H), tq_loop (f_X3_close_b7 i0) n (y1, hh) = some o → tq_W l mX3_close d 0 0 Q 111 [] [] o → tq_W l mX3_close d 0 0 Q 7 [(0, .ref i0), (1, .int y1)] [] hh := by
  intro n
  induction n with
  | zero => intro y1 hh o hl; cases hl
  | succ n ih =>
    intro y1 hh o hl hk
    obtain ⟨oo, hf, ho⟩ := tq_loop_s hl
    refine tq_iload_n (M := mX3_close) (pc := 7) dX3_close_7 rfl ?_
    refine tq_if_lt (M := mX3_close) (pc := 8) (tgt := 111) dX3_close_8 (by decide) (fun cc => ?_) (fun cc => ?_)
    · have hf := tq_ifp hf cc
      refine tq_pick (L2 := []) [] rfl ?_
      cases (Option.some.inj hf)
      cases (tq_lx ho)
      exact hk
    · have hf := tq_ifn hf cc
      refine tq_aload_n (M := mX3_close) (pc := 11) dX3_close_11 rfl ?_
      obtain ⟨r3, er3, hf⟩ := tq_be hf
      refine tq_getR (M := mX3_close) (pc := 12) tk_c3 (by decide) dX3_close_12 tk_RX3_23 rfl er3 ?_
      refine tq_iload_n (M := mX3_close) (pc := 15) dX3_close_15 rfl ?_
      obtain ⟨⟨⟩, eu5, hf⟩ := tq_be hf
      obtain ⟨fsu5, eu5⟩ := tq_is_s eu5
      obtain ⟨v4, ev4, hf⟩ := tq_be hf
      refine tq_calV (M := mX3_close) (pc := 16) (S := []) tk_y_X5_get tk_v_X5_get tk_RX3_88 dX3_close_16 [.int y1] rfl (S0 := _) rfl eu5 rfl (Nat.le_of_ble_eq_true rfl) (d1 := d - 1) (b1 := 0) (s1 := 0) (bc' := 0) (bs' := 0) (Q1 := fun r h9 => r = .inl (some (.int v4)) ∧ hh = h9) (by omega) rfl rfl (w_X5_get (by omega) ev4 (fun _ _ q => q)) (fun E h9 q => nomatch (show (Sum.inr E : tq_R) = Sum.inl _ from q.1)) (fun r9 h9 q => ?_)
      obtain ⟨q1, rfl⟩ := q
      cases (show (Sum.inl r9 : tq_R) = Sum.inl (some (.int v4)) from q1)
      refine tq_istore_n (M := mX3_close) (pc := 19) rfl dX3_close_19 (L2 := [(2, .int v4), (0, .ref i0), (1, .int y1)]) (by decide) rfl ?_
      refine tq_aload_n (M := mX3_close) (pc := 20) dX3_close_20 rfl ?_
      obtain ⟨r6, er6, hf⟩ := tq_be hf
      refine tq_getR (M := mX3_close) (pc := 21) tk_c3 (by decide) dX3_close_21 tk_RX3_26 rfl er6 ?_
      refine tq_iload_n (M := mX3_close) (pc := 24) dX3_close_24 rfl ?_
      refine tq_aload_n (M := mX3_close) (pc := 25) dX3_close_25 rfl ?_
      obtain ⟨r7, er7, hf⟩ := tq_be hf
      refine tq_getR (M := mX3_close) (pc := 26) tk_c3 (by decide) dX3_close_26 tk_RX3_26 rfl er7 ?_
      refine tq_iload_n (M := mX3_close) (pc := 29) dX3_close_29 rfl ?_
      obtain ⟨⟨⟩, eu9, hf⟩ := tq_be hf
      obtain ⟨fsu9, eu9⟩ := tq_is_s eu9
      obtain ⟨v8, ev8, hf⟩ := tq_be hf
      refine tq_calV (M := mX3_close) (pc := 30) (S := [.int v4, .ref r6]) tk_y_X5_get tk_v_X5_get tk_RX3_88 dX3_close_30 [.int v4] rfl (S0 := _) rfl eu9 rfl (Nat.le_of_ble_eq_true rfl) (d1 := d - 1) (b1 := 0) (s1 := 0) (bc' := 0) (bs' := 0) (Q1 := fun r h9 => r = .inl (some (.int v8)) ∧ hh = h9) (by omega) rfl rfl (w_X5_get (by omega) ev8 (fun _ _ q => q)) (fun E h9 q => nomatch (show (Sum.inr E : tq_R) = Sum.inl _ from q.1)) (fun r9 h9 q => ?_)
      obtain ⟨q1, rfl⟩ := q
      cases (show (Sum.inl r9 : tq_R) = Sum.inl (some (.int v8)) from q1)
      refine tq_aload_n (M := mX3_close) (pc := 33) dX3_close_33 rfl ?_
      obtain ⟨r10, er10, hf⟩ := tq_be hf
      refine tq_getR (M := mX3_close) (pc := 34) tk_c3 (by decide) dX3_close_34 tk_RX3_26 rfl er10 ?_
      refine tq_iload_n (M := mX3_close) (pc := 37) dX3_close_37 rfl ?_
      obtain ⟨⟨⟩, eu12, hf⟩ := tq_be hf
      obtain ⟨fsu12, eu12⟩ := tq_is_s eu12
      obtain ⟨v11, ev11, hf⟩ := tq_be hf
      refine tq_calV (M := mX3_close) (pc := 38) (S := [.int v8, .int v4, .ref r6]) tk_y_X5_get tk_v_X5_get tk_RX3_88 dX3_close_38 [.int y1] rfl (S0 := _) rfl eu12 rfl (Nat.le_of_ble_eq_true rfl) (d1 := d - 1) (b1 := 0) (s1 := 0) (bc' := 0) (bs' := 0) (Q1 := fun r h9 => r = .inl (some (.int v11)) ∧ hh = h9) (by omega) rfl rfl (w_X5_get (by omega) ev11 (fun _ _ q => q)) (fun E h9 q => nomatch (show (Sum.inr E : tq_R) = Sum.inl _ from q.1)) (fun r9 h9 q => ?_)
      obtain ⟨q1, rfl⟩ := q
      cases (show (Sum.inl r9 : tq_R) = Sum.inl (some (.int v11)) from q1)
      refine tq_mmax (M := mX3_close) (pc := 41) 91 dX3_close_41 tk_RX3_91 tk_max_s tk_math tk_max_c (by omega) (Nat.le_of_ble_eq_true rfl) ?_
      obtain ⟨⟨⟩, eu14, hf⟩ := tq_be hf
      obtain ⟨fsu14, eu14⟩ := tq_is_s eu14
      obtain ⟨v13, ev13, hf⟩ := tq_be hf
      refine tq_calV (M := mX3_close) (pc := 44) (S := []) tk_y_X5_set tk_v_X5_set tk_RX3_70 dX3_close_44 [.int v4, .int ((if v8 < v11 then v11 else v8))] rfl (S0 := _) rfl eu14 rfl (Nat.le_of_ble_eq_true rfl) (d1 := d - 1) (b1 := 0) (s1 := 0) (bc' := 0) (bs' := 0) (Q1 := fun r h9 => r = .inl none ∧ v13 = h9) (by omega) rfl rfl (w_X5_set (by omega) ev13 (fun _ _ q => q)) (fun E h9 q => nomatch (show (Sum.inr E : tq_R) = Sum.inl _ from q.1)) (fun r9 h9 q => ?_)
      obtain ⟨q1, rfl⟩ := q
      cases (show (Sum.inl r9 : tq_R) = Sum.inl (none) from q1)
      refine tq_aload_n (M := mX3_close) (pc := 47) dX3_close_47 rfl ?_
      obtain ⟨r15, er15, hf⟩ := tq_be hf
      refine tq_getR (M := mX3_close) (pc := 48) tk_c3 (by decide) dX3_close_48 tk_RX3_47 rfl er15 ?_
      refine tq_iload_n (M := mX3_close) (pc := 51) dX3_close_51 rfl ?_
      refine tq_aload_n (M := mX3_close) (pc := 52) dX3_close_52 rfl ?_
      obtain ⟨r16, er16, hf⟩ := tq_be hf
      refine tq_getR (M := mX3_close) (pc := 53) tk_c3 (by decide) dX3_close_53 tk_RX3_26 rfl er16 ?_
      refine tq_iload_n (M := mX3_close) (pc := 56) dX3_close_56 rfl ?_
      obtain ⟨⟨⟩, eu18, hf⟩ := tq_be hf
      obtain ⟨fsu18, eu18⟩ := tq_is_s eu18
      obtain ⟨v17, ev17, hf⟩ := tq_be hf
      refine tq_calV (M := mX3_close) (pc := 57) (S := [.int y1, .ref r15]) tk_y_X5_get tk_v_X5_get tk_RX3_88 dX3_close_57 [.int y1] rfl (S0 := _) rfl eu18 rfl (Nat.le_of_ble_eq_true rfl) (d1 := d - 1) (b1 := 0) (s1 := 0) (bc' := 0) (bs' := 0) (Q1 := fun r h9 => r = .inl (some (.int v17)) ∧ v13 = h9) (by omega) rfl rfl (w_X5_get (by omega) ev17 (fun _ _ q => q)) (fun E h9 q => nomatch (show (Sum.inr E : tq_R) = Sum.inl _ from q.1)) (fun r9 h9 q => ?_)
      obtain ⟨q1, rfl⟩ := q
      cases (show (Sum.inl r9 : tq_R) = Sum.inl (some (.int v17)) from q1)
      obtain ⟨v19, ev19, hf⟩ := tq_be hf
      refine tq_calS (M := mX3_close) (pc := 60) (S := [.int y1, .ref r15]) tk_y_X0_below tk_s_X0_below tk_RX3_97 dX3_close_60 [.int v17] rfl (Nat.le_of_ble_eq_true rfl) (d1 := d - 1) (b1 := 0) (s1 := 0) (bc' := 0) (bs' := 0) (Q1 := fun r h9 => r = .inl (some (.long v19)) ∧ v13 = h9) (by omega) rfl rfl (w_X0_below (by omega) ev19 (fun _ _ q => q)) (fun E h9 q => nomatch (show (Sum.inr E : tq_R) = Sum.inl _ from q.1)) (fun r9 h9 q => ?_)
      obtain ⟨q1, rfl⟩ := q
      cases (show (Sum.inl r9 : tq_R) = Sum.inl (some (.long v19)) from q1)
      refine tq_iload_n (M := mX3_close) (pc := 63) dX3_close_63 rfl ?_
      refine tq_iconst (M := mX3_close) (pc := 64) dX3_close_64 tk_ki_1 ?_
      refine tq_iadd (M := mX3_close) (pc := 65) dX3_close_65 ?_
      obtain ⟨v20, ev20, hf⟩ := tq_be hf
      refine tq_calS (M := mX3_close) (pc := 66) (S := [.long v19, .int y1, .ref r15]) tk_y_X0_below tk_s_X0_below tk_RX3_97 dX3_close_66 [.int ((y1 + (1 : Int32)))] rfl (Nat.le_of_ble_eq_true rfl) (d1 := d - 1) (b1 := 0) (s1 := 0) (bc' := 0) (bs' := 0) (Q1 := fun r h9 => r = .inl (some (.long v20)) ∧ v13 = h9) (by omega) rfl rfl (w_X0_below (by omega) ev20 (fun _ _ q => q)) (fun E h9 q => nomatch (show (Sum.inr E : tq_R) = Sum.inl _ from q.1)) (fun r9 h9 q => ?_)
      obtain ⟨q1, rfl⟩ := q
      cases (show (Sum.inl r9 : tq_R) = Sum.inl (some (.long v20)) from q1)
      refine tq_ldc2 (M := mX3_close) (pc := 69) dX3_close_69 tk_RX3_99 ?_
      refine tq_lxor (M := mX3_close) (pc := 72) dX3_close_72 ?_
      refine tq_land (M := mX3_close) (pc := 73) dX3_close_73 ?_
      obtain ⟨⟨⟩, eu22, hf⟩ := tq_be hf
      obtain ⟨fsu22, eu22⟩ := tq_is_s eu22
      obtain ⟨v21, ev21, hf⟩ := tq_be hf
      refine tq_calV (M := mX3_close) (pc := 74) (S := []) tk_y_X7_set tk_v_X7_set tk_RX3_85 dX3_close_74 [.int y1, .long ((v19 &&& (v20 ^^^ (-1 : Int64))))] rfl (S0 := _) rfl eu22 rfl (Nat.le_of_ble_eq_true rfl) (d1 := d - 1) (b1 := 0) (s1 := 0) (bc' := 0) (bs' := 0) (Q1 := fun r h9 => r = .inl none ∧ v21 = h9) (by omega) rfl rfl (w_X7_set (by omega) ev21 (fun _ _ q => q)) (fun E h9 q => nomatch (show (Sum.inr E : tq_R) = Sum.inl _ from q.1)) (fun r9 h9 q => ?_)
      obtain ⟨q1, rfl⟩ := q
      cases (show (Sum.inl r9 : tq_R) = Sum.inl (none) from q1)
      refine tq_aload_n (M := mX3_close) (pc := 77) dX3_close_77 rfl ?_
      obtain ⟨r23, er23, hf⟩ := tq_be hf
      refine tq_getR (M := mX3_close) (pc := 78) tk_c3 (by decide) dX3_close_78 tk_RX3_41 rfl er23 ?_
      refine tq_iload_n (M := mX3_close) (pc := 81) dX3_close_81 rfl ?_
      refine tq_aload_n (M := mX3_close) (pc := 82) dX3_close_82 rfl ?_
      obtain ⟨x24, ex24, hf⟩ := tq_be hf
      refine tq_getL (M := mX3_close) (pc := 83) tk_c3 (by decide) dX3_close_83 tk_RX3_57 rfl ex24 ?_
      refine tq_iload_n (M := mX3_close) (pc := 86) dX3_close_86 rfl ?_
      obtain ⟨v25, ev25, hf⟩ := tq_be hf
      refine tq_calS (M := mX3_close) (pc := 87) (S := [.int y1, .ref r23]) tk_y_X0_holds tk_s_X0_holds tk_RX3_101 dX3_close_87 [.long x24, .int y1] rfl (Nat.le_of_ble_eq_true rfl) (d1 := d - 1) (b1 := 0) (s1 := 0) (bc' := 0) (bs' := 0) (Q1 := fun r h9 => r = .inl (some (.int v25)) ∧ v21 = h9) (by omega) rfl rfl (w_X0_holds (by omega) ev25 (fun _ _ q => q)) (fun E h9 q => nomatch (show (Sum.inr E : tq_R) = Sum.inl _ from q.1)) (fun r9 h9 q => ?_)
      obtain ⟨q1, rfl⟩ := q
      cases (show (Sum.inl r9 : tq_R) = Sum.inl (some (.int v25)) from q1)
      obtain ⟨p28, ep28, hf⟩ := tq_be hf
      have HJ90 : tq_W l mX3_close d 0 0 Q 102 [(0, .ref i0), (1, .int y1)] [.long p28, .int y1, .ref r23] v21 := by
        obtain ⟨⟨⟩, eu30, hf⟩ := tq_be hf
        obtain ⟨fsu30, eu30⟩ := tq_is_s eu30
        obtain ⟨v29, ev29, hf⟩ := tq_be hf
        refine tq_calV (M := mX3_close) (pc := 102) (S := []) tk_y_X7_set tk_v_X7_set tk_RX3_85 dX3_close_102 [.int y1, .long p28] rfl (S0 := _) rfl eu30 rfl (Nat.le_of_ble_eq_true rfl) (d1 := d - 1) (b1 := 0) (s1 := 0) (bc' := 0) (bs' := 0) (Q1 := fun r h9 => r = .inl none ∧ v29 = h9) (by omega) rfl rfl (w_X7_set (by omega) ev29 (fun _ _ q => q)) (fun E h9 q => nomatch (show (Sum.inr E : tq_R) = Sum.inl _ from q.1)) (fun r9 h9 q => ?_)
        obtain ⟨q1, rfl⟩ := q
        cases (show (Sum.inl r9 : tq_R) = Sum.inl (none) from q1)
        obtain ⟨x31, ex31, hf⟩ := tq_le hf
        refine tq_iinc (M := mX3_close) (pc := 105) (v := x31) (L2 := [(1, .int x31), (0, .ref i0)]) dX3_close_105 rfl (by rw [ex31, tk_ki_m1]) (by decide) rfl ?_
        refine tq_goto (M := mX3_close) (pc := 108) (tgt := 7) dX3_close_108 (by decide) ?_
        refine tq_pick (L2 := [(0, .ref i0), (1, .int x31)]) [1, 0] rfl ?_
        cases (Option.some.inj hf)
        exact ih _ _ o (tq_lc ho) hk
      refine tq_if_eq (M := mX3_close) (pc := 90) (tgt := 97) dX3_close_90 (by decide) (fun cc => ?_) (fun cc => ?_)
      · have hf := tq_ifp ep28 cc
        refine tq_aload_n (M := mX3_close) (pc := 97) dX3_close_97 rfl ?_
        refine tq_iload_n (M := mX3_close) (pc := 98) dX3_close_98 rfl ?_
        obtain ⟨⟨⟩, eu27, hf⟩ := tq_be hf
        obtain ⟨fsu27, eu27⟩ := tq_is_s eu27
        obtain ⟨v26, ev26, hf⟩ := tq_be hf
        refine tq_calV (M := mX3_close) (pc := 99) (S := [.int y1, .ref r23]) tk_y_X3_children tk_v_X3_children tk_RX3_105 dX3_close_99 [.int v4] rfl (S0 := _) rfl eu27 rfl (Nat.le_of_ble_eq_true rfl) (d1 := d - 1) (b1 := 0) (s1 := 0) (bc' := 0) (bs' := 0) (Q1 := fun r h9 => r = .inl (some (.long v26)) ∧ v21 = h9) (by omega) rfl rfl (w_X3_children (by omega) ev26 (fun _ _ q => q)) (fun E h9 q => nomatch (show (Sum.inr E : tq_R) = Sum.inl _ from q.1)) (fun r9 h9 q => ?_)
        obtain ⟨q1, rfl⟩ := q
        cases (show (Sum.inl r9 : tq_R) = Sum.inl (some (.long v26)) from q1)
        refine tq_pick (L2 := [(0, .ref i0), (1, .int y1)]) [1, 2] rfl ?_
        cases (Option.some.inj hf)
        exact HJ90
      · have hf := tq_ifn ep28 cc
        refine tq_lconst (M := mX3_close) (pc := 93) dX3_close_93 tk_kl_0 ?_
        refine tq_goto (M := mX3_close) (pc := 94) (tgt := 102) dX3_close_94 (by decide) ?_
        refine tq_pick (L2 := [(0, .ref i0), (1, .int y1)]) [1, 2] rfl ?_
        cases (Option.some.inj hf)
        exact HJ90
set_option maxHeartbeats 4000000 in
set_option maxRecDepth 20000 in
theorem w_X3_close {l : Launch} {d : Nat} (hd9 : 2 ≤ d) {t : Nat} {h : tq_H} {o : tq_H} {Q : tq_R → tq_H → Prop} (hf : f_X3_close t h = some o) (hQ : ∀ r h9, r = .inl none ∧ o = h9 → Q r h9) : tq_C l yX3_close cX3_close 3 none d 0 0 [.ref t] h Q := by
  refine tq_body (y := yX3_close) false (by decide +kernel) (fun z => by cases z) (Nat.le_of_ble_eq_true rfl) ?_
  show tq_W l mX3_close d 0 0 Q 0 [(0, .ref t)] [] h
  refine tq_aload_n (M := mX3_close) (pc := 0) dX3_close_0 rfl ?_
  obtain ⟨x1, ex1, hf⟩ := tq_be hf
  refine tq_getI (M := mX3_close) (pc := 1) tk_c3 (by decide) dX3_close_1 tk_RX3_60 rfl ex1 ?_
  refine tq_iconst (M := mX3_close) (pc := 4) dX3_close_4 tk_ki_1 ?_
  refine tq_isub (M := mX3_close) (pc := 5) dX3_close_5 ?_
  obtain ⟨x2, ex2, hf⟩ := tq_le hf
  refine tq_istore_n (M := mX3_close) (pc := 6) rfl dX3_close_6 (L2 := [(1, .int x2), (0, .ref t)]) (by decide) (by rw [ex2]; rfl) ?_
  obtain ⟨o32, eo32, hf⟩ := tq_be hf
  refine tq_pick (L2 := [(0, .ref t), (1, .int x2)]) [1, 0] rfl ?_
  refine l_X3_close_7 (by omega) t _ x2 h _ eo32 ?_
  refine tq_vret (M := mX3_close) (pc := 111) dX3_close_111 rfl ?_
  cases (Option.some.inj hf)
  exact hQ _ _ ⟨rfl, rfl⟩
abbrev mX3_holds : tq_M := (RX3, cX3_holds, 2, (some .boolean), false, [])
def f_X3_holds (t : Nat) (a1 : Int32) (h : tq_H) : Option (Int32) :=
  (tq_gr h t 3 1).bind fun r1 =>
  (tq_is h r1 5).bind fun _ =>
  (f_X5_get r1 a1 h).bind fun v2 =>
  tq_let (if v2 = (-1 : Int32) then (0 : Int32) else (1 : Int32)) fun p4 =>
  (tq_bz p4).bind fun z5 =>
  some z5
set_option maxHeartbeats 4000000 in
set_option maxRecDepth 20000 in
theorem w_X3_holds {l : Launch} {d : Nat} (hd9 : 1 ≤ d) {t : Nat} {a1 : Int32} {h : tq_H} {o : Int32} {Q : tq_R → tq_H → Prop} (hf : f_X3_holds t a1 h = some o) (hQ : ∀ r h9, r = .inl (some (.int o)) ∧ h = h9 → Q r h9) : tq_C l yX3_holds cX3_holds 2 (some .boolean) d 0 0 [.ref t, .int a1] h Q := by
  refine tq_body (y := yX3_holds) false (by decide +kernel) (fun z => by cases z) (Nat.le_of_ble_eq_true rfl) ?_
  show tq_W l mX3_holds d 0 0 Q 0 [(0, .ref t), (1, .int a1)] [] h
  refine tq_aload_n (M := mX3_holds) (pc := 0) dX3_holds_0 rfl ?_
  obtain ⟨r1, er1, hf⟩ := tq_be hf
  refine tq_getR (M := mX3_holds) (pc := 1) tk_c3 (by decide) dX3_holds_1 tk_RX3_20 rfl er1 ?_
  refine tq_iload_n (M := mX3_holds) (pc := 4) dX3_holds_4 rfl ?_
  obtain ⟨⟨⟩, eu3, hf⟩ := tq_be hf
  obtain ⟨fsu3, eu3⟩ := tq_is_s eu3
  obtain ⟨v2, ev2, hf⟩ := tq_be hf
  refine tq_calV (M := mX3_holds) (pc := 5) (S := []) tk_y_X5_get tk_v_X5_get tk_RX3_88 dX3_holds_5 [.int a1] rfl (S0 := _) rfl eu3 rfl (Nat.le_of_ble_eq_true rfl) (d1 := d - 1) (b1 := 0) (s1 := 0) (bc' := 0) (bs' := 0) (Q1 := fun r h9 => r = .inl (some (.int v2)) ∧ h = h9) (by omega) rfl rfl (w_X5_get (by omega) ev2 (fun _ _ q => q)) (fun E h9 q => nomatch (show (Sum.inr E : tq_R) = Sum.inl _ from q.1)) (fun r9 h9 q => ?_)
  obtain ⟨q1, rfl⟩ := q
  cases (show (Sum.inl r9 : tq_R) = Sum.inl (some (.int v2)) from q1)
  refine tq_iconst (M := mX3_holds) (pc := 8) dX3_holds_8 tk_ki_m1 ?_
  obtain ⟨p4, ep4, hf⟩ := tq_le hf
  have HJ9 : tq_W l mX3_holds d 0 0 Q 17 [] [.int p4] h := by
    obtain ⟨z5, ez5, hf⟩ := tq_be hf
    refine tq_zretB (M := mX3_holds) (pc := 17) dX3_holds_17 rfl ez5 ?_
    cases (Option.some.inj hf)
    exact hQ _ _ ⟨rfl, rfl⟩
  refine tq_icmp_eq (M := mX3_holds) (pc := 9) (tgt := 16) dX3_holds_9 (by decide) (fun cc => ?_) (fun cc => ?_)
  · have hf := tq_ifp ep4.symm cc
    refine tq_iconst (M := mX3_holds) (pc := 16) dX3_holds_16 tk_ki_0 ?_
    refine tq_pick (L2 := []) [] rfl ?_
    cases hf
    exact HJ9
  · have hf := tq_ifn ep4.symm cc
    refine tq_iconst (M := mX3_holds) (pc := 12) dX3_holds_12 tk_ki_1 ?_
    refine tq_goto (M := mX3_holds) (pc := 13) (tgt := 17) dX3_holds_13 (by decide) ?_
    refine tq_pick (L2 := []) [] rfl ?_
    cases hf
    exact HJ9
abbrev mX3_spotOf : tq_M := (RX3, cX3_spotOf, 2, (some .int), false, [])
def f_X3_spotOf (t : Nat) (a1 : Int32) (h : tq_H) : Option (Int32) :=
  (tq_gr h t 3 1).bind fun r1 =>
  (tq_is h r1 5).bind fun _ =>
  (f_X5_get r1 a1 h).bind fun v2 =>
  some v2
set_option maxHeartbeats 4000000 in
set_option maxRecDepth 20000 in
theorem w_X3_spotOf {l : Launch} {d : Nat} (hd9 : 1 ≤ d) {t : Nat} {a1 : Int32} {h : tq_H} {o : Int32} {Q : tq_R → tq_H → Prop} (hf : f_X3_spotOf t a1 h = some o) (hQ : ∀ r h9, r = .inl (some (.int o)) ∧ h = h9 → Q r h9) : tq_C l yX3_spotOf cX3_spotOf 2 (some .int) d 0 0 [.ref t, .int a1] h Q := by
  refine tq_body (y := yX3_spotOf) false (by decide +kernel) (fun z => by cases z) (Nat.le_of_ble_eq_true rfl) ?_
  show tq_W l mX3_spotOf d 0 0 Q 0 [(0, .ref t), (1, .int a1)] [] h
  refine tq_aload_n (M := mX3_spotOf) (pc := 0) dX3_spotOf_0 rfl ?_
  obtain ⟨r1, er1, hf⟩ := tq_be hf
  refine tq_getR (M := mX3_spotOf) (pc := 1) tk_c3 (by decide) dX3_spotOf_1 tk_RX3_20 rfl er1 ?_
  refine tq_iload_n (M := mX3_spotOf) (pc := 4) dX3_spotOf_4 rfl ?_
  obtain ⟨⟨⟩, eu3, hf⟩ := tq_be hf
  obtain ⟨fsu3, eu3⟩ := tq_is_s eu3
  obtain ⟨v2, ev2, hf⟩ := tq_be hf
  refine tq_calV (M := mX3_spotOf) (pc := 5) (S := []) tk_y_X5_get tk_v_X5_get tk_RX3_88 dX3_spotOf_5 [.int a1] rfl (S0 := _) rfl eu3 rfl (Nat.le_of_ble_eq_true rfl) (d1 := d - 1) (b1 := 0) (s1 := 0) (bc' := 0) (bs' := 0) (Q1 := fun r h9 => r = .inl (some (.int v2)) ∧ h = h9) (by omega) rfl rfl (w_X5_get (by omega) ev2 (fun _ _ q => q)) (fun E h9 q => nomatch (show (Sum.inr E : tq_R) = Sum.inl _ from q.1)) (fun r9 h9 q => ?_)
  obtain ⟨q1, rfl⟩ := q
  cases (show (Sum.inl r9 : tq_R) = Sum.inl (some (.int v2)) from q1)
  refine tq_iret (M := mX3_spotOf) (pc := 8) dX3_spotOf_8 rfl ?_
  cases (Option.some.inj hf)
  exact hQ _ _ ⟨rfl, rfl⟩
abbrev mX3_spaceAt : tq_M := (RX3, cX3_spaceAt, 2, (some .int), false, [])
def f_X3_spaceAt (t : Nat) (a1 : Int32) (h : tq_H) : Option (Int32) :=
  (tq_gr h t 3 4).bind fun r1 =>
  (tq_is h r1 5).bind fun _ =>
  (f_X5_get r1 a1 h).bind fun v2 =>
  some v2
set_option maxHeartbeats 4000000 in
set_option maxRecDepth 20000 in
theorem w_X3_spaceAt {l : Launch} {d : Nat} (hd9 : 1 ≤ d) {t : Nat} {a1 : Int32} {h : tq_H} {o : Int32} {Q : tq_R → tq_H → Prop} (hf : f_X3_spaceAt t a1 h = some o) (hQ : ∀ r h9, r = .inl (some (.int o)) ∧ h = h9 → Q r h9) : tq_C l yX3_spaceAt cX3_spaceAt 2 (some .int) d 0 0 [.ref t, .int a1] h Q := by
  refine tq_body (y := yX3_spaceAt) false (by decide +kernel) (fun z => by cases z) (Nat.le_of_ble_eq_true rfl) ?_
  show tq_W l mX3_spaceAt d 0 0 Q 0 [(0, .ref t), (1, .int a1)] [] h
  refine tq_aload_n (M := mX3_spaceAt) (pc := 0) dX3_spaceAt_0 rfl ?_
  obtain ⟨r1, er1, hf⟩ := tq_be hf
  refine tq_getR (M := mX3_spaceAt) (pc := 1) tk_c3 (by decide) dX3_spaceAt_1 tk_RX3_29 rfl er1 ?_
  refine tq_iload_n (M := mX3_spaceAt) (pc := 4) dX3_spaceAt_4 rfl ?_
  obtain ⟨⟨⟩, eu3, hf⟩ := tq_be hf
  obtain ⟨fsu3, eu3⟩ := tq_is_s eu3
  obtain ⟨v2, ev2, hf⟩ := tq_be hf
  refine tq_calV (M := mX3_spaceAt) (pc := 5) (S := []) tk_y_X5_get tk_v_X5_get tk_RX3_88 dX3_spaceAt_5 [.int a1] rfl (S0 := _) rfl eu3 rfl (Nat.le_of_ble_eq_true rfl) (d1 := d - 1) (b1 := 0) (s1 := 0) (bc' := 0) (bs' := 0) (Q1 := fun r h9 => r = .inl (some (.int v2)) ∧ h = h9) (by omega) rfl rfl (w_X5_get (by omega) ev2 (fun _ _ q => q)) (fun E h9 q => nomatch (show (Sum.inr E : tq_R) = Sum.inl _ from q.1)) (fun r9 h9 q => ?_)
  obtain ⟨q1, rfl⟩ := q
  cases (show (Sum.inl r9 : tq_R) = Sum.inl (some (.int v2)) from q1)
  refine tq_iret (M := mX3_spaceAt) (pc := 8) dX3_spaceAt_8 rfl ?_
  cases (Option.some.inj hf)
  exact hQ _ _ ⟨rfl, rfl⟩
abbrev mX3_everything : tq_M := (RX3, cX3_everything, 1, (some .long), false, [])
def f_X3_everything (t : Nat) (h : tq_H) : Option (Int64) :=
  (tq_gi h t 3 12).bind fun x1 =>
  (f_X0_below x1 h).bind fun v2 =>
  some v2
set_option maxHeartbeats 4000000 in
set_option maxRecDepth 20000 in
theorem w_X3_everything {l : Launch} {d : Nat} (hd9 : 1 ≤ d) {t : Nat} {h : tq_H} {o : Int64} {Q : tq_R → tq_H → Prop} (hf : f_X3_everything t h = some o) (hQ : ∀ r h9, r = .inl (some (.long o)) ∧ h = h9 → Q r h9) : tq_C l yX3_everything cX3_everything 1 (some .long) d 0 0 [.ref t] h Q := by
  refine tq_body (y := yX3_everything) false (by decide +kernel) (fun z => by cases z) (Nat.le_of_ble_eq_true rfl) ?_
  show tq_W l mX3_everything d 0 0 Q 0 [(0, .ref t)] [] h
  refine tq_aload_n (M := mX3_everything) (pc := 0) dX3_everything_0 rfl ?_
  obtain ⟨x1, ex1, hf⟩ := tq_be hf
  refine tq_getI (M := mX3_everything) (pc := 1) tk_c3 (by decide) dX3_everything_1 tk_RX3_60 rfl ex1 ?_
  obtain ⟨v2, ev2, hf⟩ := tq_be hf
  refine tq_calS (M := mX3_everything) (pc := 4) (S := []) tk_y_X0_below tk_s_X0_below tk_RX3_97 dX3_everything_4 [.int x1] rfl (Nat.le_of_ble_eq_true rfl) (d1 := d - 1) (b1 := 0) (s1 := 0) (bc' := 0) (bs' := 0) (Q1 := fun r h9 => r = .inl (some (.long v2)) ∧ h = h9) (by omega) rfl rfl (w_X0_below (by omega) ev2 (fun _ _ q => q)) (fun E h9 q => nomatch (show (Sum.inr E : tq_R) = Sum.inl _ from q.1)) (fun r9 h9 q => ?_)
  obtain ⟨q1, rfl⟩ := q
  cases (show (Sum.inl r9 : tq_R) = Sum.inl (some (.long v2)) from q1)
  refine tq_lret (M := mX3_everything) (pc := 7) dX3_everything_7 rfl ?_
  cases (Option.some.inj hf)
  exact hQ _ _ ⟨rfl, rfl⟩
abbrev mX3_solids : tq_M := (RX3, cX3_solids, 1, (some .long), false, [])
def f_X3_solids (t : Nat) (h : tq_H) : Option (Int64) :=
  (tq_gi h t 3 12).bind fun x1 =>
  (f_X0_below x1 h).bind fun v2 =>
  (tq_gl h t 3 11).bind fun x3 =>
  some (v2 &&& (x3 ^^^ (-1 : Int64)))
set_option maxHeartbeats 4000000 in
set_option maxRecDepth 20000 in
theorem w_X3_solids {l : Launch} {d : Nat} (hd9 : 1 ≤ d) {t : Nat} {h : tq_H} {o : Int64} {Q : tq_R → tq_H → Prop} (hf : f_X3_solids t h = some o) (hQ : ∀ r h9, r = .inl (some (.long o)) ∧ h = h9 → Q r h9) : tq_C l yX3_solids cX3_solids 1 (some .long) d 0 0 [.ref t] h Q := by
  refine tq_body (y := yX3_solids) false (by decide +kernel) (fun z => by cases z) (Nat.le_of_ble_eq_true rfl) ?_
  show tq_W l mX3_solids d 0 0 Q 0 [(0, .ref t)] [] h
  refine tq_aload_n (M := mX3_solids) (pc := 0) dX3_solids_0 rfl ?_
  obtain ⟨x1, ex1, hf⟩ := tq_be hf
  refine tq_getI (M := mX3_solids) (pc := 1) tk_c3 (by decide) dX3_solids_1 tk_RX3_60 rfl ex1 ?_
  obtain ⟨v2, ev2, hf⟩ := tq_be hf
  refine tq_calS (M := mX3_solids) (pc := 4) (S := []) tk_y_X0_below tk_s_X0_below tk_RX3_97 dX3_solids_4 [.int x1] rfl (Nat.le_of_ble_eq_true rfl) (d1 := d - 1) (b1 := 0) (s1 := 0) (bc' := 0) (bs' := 0) (Q1 := fun r h9 => r = .inl (some (.long v2)) ∧ h = h9) (by omega) rfl rfl (w_X0_below (by omega) ev2 (fun _ _ q => q)) (fun E h9 q => nomatch (show (Sum.inr E : tq_R) = Sum.inl _ from q.1)) (fun r9 h9 q => ?_)
  obtain ⟨q1, rfl⟩ := q
  cases (show (Sum.inl r9 : tq_R) = Sum.inl (some (.long v2)) from q1)
  refine tq_aload_n (M := mX3_solids) (pc := 7) dX3_solids_7 rfl ?_
  obtain ⟨x3, ex3, hf⟩ := tq_be hf
  refine tq_getL (M := mX3_solids) (pc := 8) tk_c3 (by decide) dX3_solids_8 tk_RX3_57 rfl ex3 ?_
  refine tq_ldc2 (M := mX3_solids) (pc := 11) dX3_solids_11 tk_RX3_99 ?_
  refine tq_lxor (M := mX3_solids) (pc := 14) dX3_solids_14 ?_
  refine tq_land (M := mX3_solids) (pc := 15) dX3_solids_15 ?_
  refine tq_lret (M := mX3_solids) (pc := 16) dX3_solids_16 rfl ?_
  cases (Option.some.inj hf)
  exact hQ _ _ ⟨rfl, rfl⟩
abbrev mX3_attributesOf : tq_M := (RX3, cX3_attributesOf, 2, (some .long), false, [])
def f_X3_attributesOf (t : Nat) (a1 : Int32) (h : tq_H) : Option (Int64) :=
  (tq_gr h t 3 5).bind fun r1 =>
  (tq_is h r1 7).bind fun _ =>
  (f_X7_get r1 a1 h).bind fun v2 =>
  (tq_gl h t 3 11).bind fun x4 =>
  some (v2 &&& x4)
set_option maxHeartbeats 4000000 in
set_option maxRecDepth 20000 in
theorem w_X3_attributesOf {l : Launch} {d : Nat} (hd9 : 1 ≤ d) {t : Nat} {a1 : Int32} {h : tq_H} {o : Int64} {Q : tq_R → tq_H → Prop} (hf : f_X3_attributesOf t a1 h = some o) (hQ : ∀ r h9, r = .inl (some (.long o)) ∧ h = h9 → Q r h9) : tq_C l yX3_attributesOf cX3_attributesOf 2 (some .long) d 0 0 [.ref t, .int a1] h Q := by
  refine tq_body (y := yX3_attributesOf) false (by decide +kernel) (fun z => by cases z) (Nat.le_of_ble_eq_true rfl) ?_
  show tq_W l mX3_attributesOf d 0 0 Q 0 [(0, .ref t), (1, .int a1)] [] h
  refine tq_aload_n (M := mX3_attributesOf) (pc := 0) dX3_attributesOf_0 rfl ?_
  obtain ⟨r1, er1, hf⟩ := tq_be hf
  refine tq_getR (M := mX3_attributesOf) (pc := 1) tk_c3 (by decide) dX3_attributesOf_1 tk_RX3_37 rfl er1 ?_
  refine tq_iload_n (M := mX3_attributesOf) (pc := 4) dX3_attributesOf_4 rfl ?_
  obtain ⟨⟨⟩, eu3, hf⟩ := tq_be hf
  obtain ⟨fsu3, eu3⟩ := tq_is_s eu3
  obtain ⟨v2, ev2, hf⟩ := tq_be hf
  refine tq_calV (M := mX3_attributesOf) (pc := 5) (S := []) tk_y_X7_get tk_v_X7_get tk_RX3_76 dX3_attributesOf_5 [.int a1] rfl (S0 := _) rfl eu3 rfl (Nat.le_of_ble_eq_true rfl) (d1 := d - 1) (b1 := 0) (s1 := 0) (bc' := 0) (bs' := 0) (Q1 := fun r h9 => r = .inl (some (.long v2)) ∧ h = h9) (by omega) rfl rfl (w_X7_get (by omega) ev2 (fun _ _ q => q)) (fun E h9 q => nomatch (show (Sum.inr E : tq_R) = Sum.inl _ from q.1)) (fun r9 h9 q => ?_)
  obtain ⟨q1, rfl⟩ := q
  cases (show (Sum.inl r9 : tq_R) = Sum.inl (some (.long v2)) from q1)
  refine tq_aload_n (M := mX3_attributesOf) (pc := 8) dX3_attributesOf_8 rfl ?_
  obtain ⟨x4, ex4, hf⟩ := tq_be hf
  refine tq_getL (M := mX3_attributesOf) (pc := 9) tk_c3 (by decide) dX3_attributesOf_9 tk_RX3_57 rfl ex4 ?_
  refine tq_land (M := mX3_attributesOf) (pc := 12) dX3_attributesOf_12 ?_
  refine tq_lret (M := mX3_attributesOf) (pc := 13) dX3_attributesOf_13 rfl ?_
  cases (Option.some.inj hf)
  exact hQ _ _ ⟨rfl, rfl⟩
abbrev mX3_childCount : tq_M := (RX3, cX3_childCount, 2, (some .int), false, [])
def f_X3_childCount (t : Nat) (a1 : Int32) (h : tq_H) : Option (Int32) :=
  (tq_gr h t 3 1).bind fun r1 =>
  (tq_is h r1 5).bind fun _ =>
  (f_X5_get r1 a1 h).bind fun v2 =>
  (tq_is h t 3).bind fun _ =>
  (f_X3_children t v2 h).bind fun v4 =>
  (f_J13_bitCount_95d88 v4 h).bind fun v6 =>
  some v6
set_option maxHeartbeats 4000000 in
set_option maxRecDepth 20000 in
theorem w_X3_childCount {l : Launch} {d : Nat} (hd9 : 2 ≤ d) {t : Nat} {a1 : Int32} {h : tq_H} {o : Int32} {Q : tq_R → tq_H → Prop} (hf : f_X3_childCount t a1 h = some o) (hQ : ∀ r h9, r = .inl (some (.int o)) ∧ h = h9 → Q r h9) : tq_C l yX3_childCount cX3_childCount 2 (some .int) d 0 0 [.ref t, .int a1] h Q := by
  refine tq_body (y := yX3_childCount) false (by decide +kernel) (fun z => by cases z) (Nat.le_of_ble_eq_true rfl) ?_
  show tq_W l mX3_childCount d 0 0 Q 0 [(0, .ref t), (1, .int a1)] [] h
  refine tq_aload_n (M := mX3_childCount) (pc := 0) dX3_childCount_0 rfl ?_
  refine tq_aload_n (M := mX3_childCount) (pc := 1) dX3_childCount_1 rfl ?_
  obtain ⟨r1, er1, hf⟩ := tq_be hf
  refine tq_getR (M := mX3_childCount) (pc := 2) tk_c3 (by decide) dX3_childCount_2 tk_RX3_20 rfl er1 ?_
  refine tq_iload_n (M := mX3_childCount) (pc := 5) dX3_childCount_5 rfl ?_
  obtain ⟨⟨⟩, eu3, hf⟩ := tq_be hf
  obtain ⟨fsu3, eu3⟩ := tq_is_s eu3
  obtain ⟨v2, ev2, hf⟩ := tq_be hf
  refine tq_calV (M := mX3_childCount) (pc := 6) (S := [.ref t]) tk_y_X5_get tk_v_X5_get tk_RX3_88 dX3_childCount_6 [.int a1] rfl (S0 := _) rfl eu3 rfl (Nat.le_of_ble_eq_true rfl) (d1 := d - 1) (b1 := 0) (s1 := 0) (bc' := 0) (bs' := 0) (Q1 := fun r h9 => r = .inl (some (.int v2)) ∧ h = h9) (by omega) rfl rfl (w_X5_get (by omega) ev2 (fun _ _ q => q)) (fun E h9 q => nomatch (show (Sum.inr E : tq_R) = Sum.inl _ from q.1)) (fun r9 h9 q => ?_)
  obtain ⟨q1, rfl⟩ := q
  cases (show (Sum.inl r9 : tq_R) = Sum.inl (some (.int v2)) from q1)
  obtain ⟨⟨⟩, eu5, hf⟩ := tq_be hf
  obtain ⟨fsu5, eu5⟩ := tq_is_s eu5
  obtain ⟨v4, ev4, hf⟩ := tq_be hf
  refine tq_calV (M := mX3_childCount) (pc := 9) (S := []) tk_y_X3_children tk_v_X3_children tk_RX3_105 dX3_childCount_9 [.int v2] rfl (S0 := _) rfl eu5 rfl (Nat.le_of_ble_eq_true rfl) (d1 := d - 1) (b1 := 0) (s1 := 0) (bc' := 0) (bs' := 0) (Q1 := fun r h9 => r = .inl (some (.long v4)) ∧ h = h9) (by omega) rfl rfl (w_X3_children (by omega) ev4 (fun _ _ q => q)) (fun E h9 q => nomatch (show (Sum.inr E : tq_R) = Sum.inl _ from q.1)) (fun r9 h9 q => ?_)
  obtain ⟨q1, rfl⟩ := q
  cases (show (Sum.inl r9 : tq_R) = Sum.inl (some (.long v4)) from q1)
  obtain ⟨v6, ev6, hf⟩ := tq_be hf
  refine tq_calS (M := mX3_childCount) (pc := 12) (S := []) tk_y_J13_bitCount_95d88 tk_s_J13_bitCount_95d88 tk_RX3_112 dX3_childCount_12 [.long v4] rfl (Nat.le_of_ble_eq_true rfl) (d1 := d - 1) (b1 := 0) (s1 := 0) (bc' := 0) (bs' := 0) (Q1 := fun r h9 => r = .inl (some (.int v6)) ∧ h = h9) (by omega) rfl rfl (w_J13_bitCount_95d88 (by omega) ev6 (fun _ _ q => q)) (fun E h9 q => nomatch (show (Sum.inr E : tq_R) = Sum.inl _ from q.1)) (fun r9 h9 q => ?_)
  obtain ⟨q1, rfl⟩ := q
  cases (show (Sum.inl r9 : tq_R) = Sum.inl (some (.int v6)) from q1)
  refine tq_iret (M := mX3_childCount) (pc := 15) dX3_childCount_15 rfl ?_
  cases (Option.some.inj hf)
  exact hQ _ _ ⟨rfl, rfl⟩
abbrev mX3_spread : tq_M := (RX3, cX3_spread, 6, (some .long), false, [])
def f_X3_spread_b5 (i0 : Nat) (i1 : Int64) (hh : tq_H) (s : Int64 × Int32) : Option ((Int64 × Int32) ⊕ (Int64)) := match s with
  | (y3, y5) =>
    (tq_gi hh i0 3 12).bind fun x1 =>
    if y5 ≥ x1 then
      some (.inr y3)
    else
      (f_X0_holds i1 y5 hh).bind fun v2 =>
      (if v2 = 0 then
        some y3
      else
        (tq_gr hh i0 3 8).bind fun r3 =>
        (tq_is hh r3 7).bind fun _ =>
        (f_X7_get r3 y5 hh).bind fun v4 =>
        tq_let ((y3 ||| v4)) fun x6 =>
        some x6).bind fun p7 =>
      tq_let (y5 + (1 : Int32)) fun x8 =>
      some (.inl (p7, x8))
def f_X3_spread (t : Nat) (a1 : Int64) (h : tq_H) : Option (Int64) :=
  (tq_loop (f_X3_spread_b5 t a1 h) tq_N (a1, (0 : Int32))).bind fun o9 =>
  some o9
set_option maxHeartbeats 4000000 in
theorem l_X3_spread_5 {l : Launch} {d : Nat} {Q : tq_R → tq_H → Prop} (hd9 : 1 ≤ d) (i0 : Nat) (i1 : Int64) (hh : tq_H) : ∀ (n : Nat) (y3 : Int64) (y5 : Int32) (o : Int64), tq_loop (f_X3_spread_b5 i0 i1 hh) n (y3, y5) = some o → tq_W l mX3_spread d 0 0 Q 41 [(3, .long o)] [] hh → tq_W l mX3_spread d 0 0 Q 5 [(0, .ref i0), (1, .long i1), (3, .long y3), (5, .int y5)] [] hh := by
  intro n
  induction n with
  | zero => intro y3 y5 o hl; cases hl
  | succ n ih =>
    intro y3 y5 o hl hk
    obtain ⟨oo, hf, ho⟩ := tq_loop_s hl
    refine tq_iload (M := mX3_spread) (pc := 5) dX3_spread_5 rfl ?_
    refine tq_aload_n (M := mX3_spread) (pc := 7) dX3_spread_7 rfl ?_
    obtain ⟨x1, ex1, hf⟩ := tq_be hf
    refine tq_getI (M := mX3_spread) (pc := 8) tk_c3 (by decide) dX3_spread_8 tk_RX3_60 rfl ex1 ?_
    refine tq_icmp_ge (M := mX3_spread) (pc := 11) (tgt := 41) dX3_spread_11 (by decide) (fun cc => ?_) (fun cc => ?_)
    · have hf := tq_ifp hf cc
      refine tq_pick (L2 := [(3, .long y3)]) [2] rfl ?_
      cases (Option.some.inj hf)
      cases (tq_lx ho)
      exact hk
    · have hf := tq_ifn hf cc
      refine tq_lload_n (M := mX3_spread) (pc := 14) dX3_spread_14 rfl ?_
      refine tq_iload (M := mX3_spread) (pc := 15) dX3_spread_15 rfl ?_
      obtain ⟨v2, ev2, hf⟩ := tq_be hf
      refine tq_calS (M := mX3_spread) (pc := 17) (S := []) tk_y_X0_holds tk_s_X0_holds tk_RX3_101 dX3_spread_17 [.long i1, .int y5] rfl (Nat.le_of_ble_eq_true rfl) (d1 := d - 1) (b1 := 0) (s1 := 0) (bc' := 0) (bs' := 0) (Q1 := fun r h9 => r = .inl (some (.int v2)) ∧ hh = h9) (by omega) rfl rfl (w_X0_holds (by omega) ev2 (fun _ _ q => q)) (fun E h9 q => nomatch (show (Sum.inr E : tq_R) = Sum.inl _ from q.1)) (fun r9 h9 q => ?_)
      obtain ⟨q1, rfl⟩ := q
      cases (show (Sum.inl r9 : tq_R) = Sum.inl (some (.int v2)) from q1)
      obtain ⟨p7, ep7, hf⟩ := tq_be hf
      have HJ20 : tq_W l mX3_spread d 0 0 Q 35 [(0, .ref i0), (1, .long i1), (3, .long p7), (5, .int y5)] [] hh := by
        obtain ⟨x8, ex8, hf⟩ := tq_le hf
        refine tq_iinc (M := mX3_spread) (pc := 35) (v := x8) (L2 := [(5, .int x8), (0, .ref i0), (1, .long i1), (3, .long p7)]) dX3_spread_35 rfl (by rw [ex8, tk_ki_1]) (by decide) rfl ?_
        refine tq_goto (M := mX3_spread) (pc := 38) (tgt := 5) dX3_spread_38 (by decide) ?_
        refine tq_pick (L2 := [(0, .ref i0), (1, .long i1), (3, .long p7), (5, .int x8)]) [1, 2, 3, 0] rfl ?_
        cases (Option.some.inj hf)
        exact ih _ _ o (tq_lc ho) hk
      refine tq_if_eq (M := mX3_spread) (pc := 20) (tgt := 35) dX3_spread_20 (by decide) (fun cc => ?_) (fun cc => ?_)
      · have hf := tq_ifp ep7 cc
        cases (Option.some.inj hf)
        exact HJ20
      · have hf := tq_ifn ep7 cc
        refine tq_lload_n (M := mX3_spread) (pc := 23) dX3_spread_23 rfl ?_
        refine tq_aload_n (M := mX3_spread) (pc := 24) dX3_spread_24 rfl ?_
        obtain ⟨r3, er3, hf⟩ := tq_be hf
        refine tq_getR (M := mX3_spread) (pc := 25) tk_c3 (by decide) dX3_spread_25 tk_RX3_47 rfl er3 ?_
        refine tq_iload (M := mX3_spread) (pc := 28) dX3_spread_28 rfl ?_
        obtain ⟨⟨⟩, eu5, hf⟩ := tq_be hf
        obtain ⟨fsu5, eu5⟩ := tq_is_s eu5
        obtain ⟨v4, ev4, hf⟩ := tq_be hf
        refine tq_calV (M := mX3_spread) (pc := 30) (S := [.long y3]) tk_y_X7_get tk_v_X7_get tk_RX3_76 dX3_spread_30 [.int y5] rfl (S0 := _) rfl eu5 rfl (Nat.le_of_ble_eq_true rfl) (d1 := d - 1) (b1 := 0) (s1 := 0) (bc' := 0) (bs' := 0) (Q1 := fun r h9 => r = .inl (some (.long v4)) ∧ hh = h9) (by omega) rfl rfl (w_X7_get (by omega) ev4 (fun _ _ q => q)) (fun E h9 q => nomatch (show (Sum.inr E : tq_R) = Sum.inl _ from q.1)) (fun r9 h9 q => ?_)
        obtain ⟨q1, rfl⟩ := q
        cases (show (Sum.inl r9 : tq_R) = Sum.inl (some (.long v4)) from q1)
        refine tq_lor (M := mX3_spread) (pc := 33) dX3_spread_33 ?_
        obtain ⟨x6, ex6, hf⟩ := tq_le hf
        refine tq_lstore_n (M := mX3_spread) (pc := 34) rfl dX3_spread_34 (L2 := [(3, .long x6), (0, .ref i0), (1, .long i1), (5, .int y5)]) (by decide) (by rw [ex6]; rfl) ?_
        refine tq_pick (L2 := [(0, .ref i0), (1, .long i1), (3, .long x6), (5, .int y5)]) [1, 2, 0, 3] rfl ?_
        cases (Option.some.inj hf)
        exact HJ20
set_option maxHeartbeats 4000000 in
set_option maxRecDepth 20000 in
theorem w_X3_spread {l : Launch} {d : Nat} (hd9 : 1 ≤ d) {t : Nat} {a1 : Int64} {h : tq_H} {o : Int64} {Q : tq_R → tq_H → Prop} (hf : f_X3_spread t a1 h = some o) (hQ : ∀ r h9, r = .inl (some (.long o)) ∧ h = h9 → Q r h9) : tq_C l yX3_spread cX3_spread 6 (some .long) d 0 0 [.ref t, .long a1] h Q := by
  refine tq_body (y := yX3_spread) false (by decide +kernel) (fun z => by cases z) (Nat.le_of_ble_eq_true rfl) ?_
  show tq_W l mX3_spread d 0 0 Q 0 [(0, .ref t), (1, .long a1)] [] h
  refine tq_lload_n (M := mX3_spread) (pc := 0) dX3_spread_0 rfl ?_
  refine tq_lstore_n (M := mX3_spread) (pc := 1) rfl dX3_spread_1 (L2 := [(3, .long a1), (0, .ref t), (1, .long a1)]) (by decide) rfl ?_
  refine tq_iconst (M := mX3_spread) (pc := 2) dX3_spread_2 tk_ki_0 ?_
  refine tq_istore (M := mX3_spread) (pc := 3) dX3_spread_3 (L2 := [(5, .int (0 : Int32)), (3, .long a1), (0, .ref t), (1, .long a1)]) (by decide) rfl ?_
  obtain ⟨o9, eo9, hf⟩ := tq_be hf
  refine tq_pick (L2 := [(0, .ref t), (1, .long a1), (3, .long a1), (5, .int (0 : Int32))]) [2, 3, 1, 0] rfl ?_
  refine l_X3_spread_5 (by omega) t a1 h _ a1 (0 : Int32) _ eo9 ?_
  refine tq_lload_n (M := mX3_spread) (pc := 41) dX3_spread_41 rfl ?_
  refine tq_lret (M := mX3_spread) (pc := 42) dX3_spread_42 rfl ?_
  cases (Option.some.inj hf)
  exact hQ _ _ ⟨rfl, rfl⟩
abbrev mX3_nodesOf : tq_M := (RX3, cX3_nodesOf, 6, (some .long), false, [])
def f_X3_nodesOf_b5 (i0 : Nat) (i1 : Int64) (hh : tq_H) (s : Int64 × Int32) : Option ((Int64 × Int32) ⊕ (Int64)) := match s with
  | (y3, y5) =>
    (tq_gi hh i0 3 12).bind fun x1 =>
    if y5 ≥ x1 then
      some (.inr y3)
    else
      (f_X0_holds i1 y5 hh).bind fun v2 =>
      (if v2 = 0 then
        some y3
      else
        (tq_gr hh i0 3 0).bind fun r3 =>
        (tq_is hh r3 5).bind fun _ =>
        (f_X5_get r3 y5 hh).bind fun v4 =>
        (f_X0_one v4 hh).bind fun v6 =>
        tq_let ((y3 ||| v6)) fun x7 =>
        some x7).bind fun p8 =>
      tq_let (y5 + (1 : Int32)) fun x9 =>
      some (.inl (p8, x9))
def f_X3_nodesOf (t : Nat) (a1 : Int64) (h : tq_H) : Option (Int64) :=
  (tq_loop (f_X3_nodesOf_b5 t a1 h) tq_N ((0 : Int64), (0 : Int32))).bind fun o10 =>
  some o10
set_option maxHeartbeats 4000000 in
theorem l_X3_nodesOf_5 {l : Launch} {d : Nat} {Q : tq_R → tq_H → Prop} (hd9 : 1 ≤ d) (i0 : Nat) (i1 : Int64) (hh : tq_H) : ∀ (n : Nat) (y3 : Int64) (y5 : Int32) (o : Int64), tq_loop (f_X3_nodesOf_b5 i0 i1 hh) n (y3, y5) = some o → tq_W l mX3_nodesOf d 0 0 Q 44 [(3, .long o)] [] hh → tq_W l mX3_nodesOf d 0 0 Q 5 [(0, .ref i0), (1, .long i1), (3, .long y3), (5, .int y5)] [] hh := by
  intro n
  induction n with
  | zero => intro y3 y5 o hl; cases hl
  | succ n ih =>
    intro y3 y5 o hl hk
    obtain ⟨oo, hf, ho⟩ := tq_loop_s hl
    refine tq_iload (M := mX3_nodesOf) (pc := 5) dX3_nodesOf_5 rfl ?_
    refine tq_aload_n (M := mX3_nodesOf) (pc := 7) dX3_nodesOf_7 rfl ?_
    obtain ⟨x1, ex1, hf⟩ := tq_be hf
    refine tq_getI (M := mX3_nodesOf) (pc := 8) tk_c3 (by decide) dX3_nodesOf_8 tk_RX3_60 rfl ex1 ?_
    refine tq_icmp_ge (M := mX3_nodesOf) (pc := 11) (tgt := 44) dX3_nodesOf_11 (by decide) (fun cc => ?_) (fun cc => ?_)
    · have hf := tq_ifp hf cc
      refine tq_pick (L2 := [(3, .long y3)]) [2] rfl ?_
      cases (Option.some.inj hf)
      cases (tq_lx ho)
      exact hk
    · have hf := tq_ifn hf cc
      refine tq_lload_n (M := mX3_nodesOf) (pc := 14) dX3_nodesOf_14 rfl ?_
      refine tq_iload (M := mX3_nodesOf) (pc := 15) dX3_nodesOf_15 rfl ?_
      obtain ⟨v2, ev2, hf⟩ := tq_be hf
      refine tq_calS (M := mX3_nodesOf) (pc := 17) (S := []) tk_y_X0_holds tk_s_X0_holds tk_RX3_101 dX3_nodesOf_17 [.long i1, .int y5] rfl (Nat.le_of_ble_eq_true rfl) (d1 := d - 1) (b1 := 0) (s1 := 0) (bc' := 0) (bs' := 0) (Q1 := fun r h9 => r = .inl (some (.int v2)) ∧ hh = h9) (by omega) rfl rfl (w_X0_holds (by omega) ev2 (fun _ _ q => q)) (fun E h9 q => nomatch (show (Sum.inr E : tq_R) = Sum.inl _ from q.1)) (fun r9 h9 q => ?_)
      obtain ⟨q1, rfl⟩ := q
      cases (show (Sum.inl r9 : tq_R) = Sum.inl (some (.int v2)) from q1)
      obtain ⟨p8, ep8, hf⟩ := tq_be hf
      have HJ20 : tq_W l mX3_nodesOf d 0 0 Q 38 [(0, .ref i0), (1, .long i1), (3, .long p8), (5, .int y5)] [] hh := by
        obtain ⟨x9, ex9, hf⟩ := tq_le hf
        refine tq_iinc (M := mX3_nodesOf) (pc := 38) (v := x9) (L2 := [(5, .int x9), (0, .ref i0), (1, .long i1), (3, .long p8)]) dX3_nodesOf_38 rfl (by rw [ex9, tk_ki_1]) (by decide) rfl ?_
        refine tq_goto (M := mX3_nodesOf) (pc := 41) (tgt := 5) dX3_nodesOf_41 (by decide) ?_
        refine tq_pick (L2 := [(0, .ref i0), (1, .long i1), (3, .long p8), (5, .int x9)]) [1, 2, 3, 0] rfl ?_
        cases (Option.some.inj hf)
        exact ih _ _ o (tq_lc ho) hk
      refine tq_if_eq (M := mX3_nodesOf) (pc := 20) (tgt := 38) dX3_nodesOf_20 (by decide) (fun cc => ?_) (fun cc => ?_)
      · have hf := tq_ifp ep8 cc
        cases (Option.some.inj hf)
        exact HJ20
      · have hf := tq_ifn ep8 cc
        refine tq_lload_n (M := mX3_nodesOf) (pc := 23) dX3_nodesOf_23 rfl ?_
        refine tq_aload_n (M := mX3_nodesOf) (pc := 24) dX3_nodesOf_24 rfl ?_
        obtain ⟨r3, er3, hf⟩ := tq_be hf
        refine tq_getR (M := mX3_nodesOf) (pc := 25) tk_c3 (by decide) dX3_nodesOf_25 tk_RX3_14 rfl er3 ?_
        refine tq_iload (M := mX3_nodesOf) (pc := 28) dX3_nodesOf_28 rfl ?_
        obtain ⟨⟨⟩, eu5, hf⟩ := tq_be hf
        obtain ⟨fsu5, eu5⟩ := tq_is_s eu5
        obtain ⟨v4, ev4, hf⟩ := tq_be hf
        refine tq_calV (M := mX3_nodesOf) (pc := 30) (S := [.long y3]) tk_y_X5_get tk_v_X5_get tk_RX3_88 dX3_nodesOf_30 [.int y5] rfl (S0 := _) rfl eu5 rfl (Nat.le_of_ble_eq_true rfl) (d1 := d - 1) (b1 := 0) (s1 := 0) (bc' := 0) (bs' := 0) (Q1 := fun r h9 => r = .inl (some (.int v4)) ∧ hh = h9) (by omega) rfl rfl (w_X5_get (by omega) ev4 (fun _ _ q => q)) (fun E h9 q => nomatch (show (Sum.inr E : tq_R) = Sum.inl _ from q.1)) (fun r9 h9 q => ?_)
        obtain ⟨q1, rfl⟩ := q
        cases (show (Sum.inl r9 : tq_R) = Sum.inl (some (.int v4)) from q1)
        obtain ⟨v6, ev6, hf⟩ := tq_be hf
        refine tq_calS (M := mX3_nodesOf) (pc := 33) (S := [.long y3]) tk_y_X0_one tk_s_X0_one tk_RX3_80 dX3_nodesOf_33 [.int v4] rfl (Nat.le_of_ble_eq_true rfl) (d1 := d - 1) (b1 := 0) (s1 := 0) (bc' := 0) (bs' := 0) (Q1 := fun r h9 => r = .inl (some (.long v6)) ∧ hh = h9) (by omega) rfl rfl (w_X0_one (by omega) ev6 (fun _ _ q => q)) (fun E h9 q => nomatch (show (Sum.inr E : tq_R) = Sum.inl _ from q.1)) (fun r9 h9 q => ?_)
        obtain ⟨q1, rfl⟩ := q
        cases (show (Sum.inl r9 : tq_R) = Sum.inl (some (.long v6)) from q1)
        refine tq_lor (M := mX3_nodesOf) (pc := 36) dX3_nodesOf_36 ?_
        obtain ⟨x7, ex7, hf⟩ := tq_le hf
        refine tq_lstore_n (M := mX3_nodesOf) (pc := 37) rfl dX3_nodesOf_37 (L2 := [(3, .long x7), (0, .ref i0), (1, .long i1), (5, .int y5)]) (by decide) (by rw [ex7]; rfl) ?_
        refine tq_pick (L2 := [(0, .ref i0), (1, .long i1), (3, .long x7), (5, .int y5)]) [1, 2, 0, 3] rfl ?_
        cases (Option.some.inj hf)
        exact HJ20
set_option maxHeartbeats 4000000 in
set_option maxRecDepth 20000 in
theorem w_X3_nodesOf {l : Launch} {d : Nat} (hd9 : 1 ≤ d) {t : Nat} {a1 : Int64} {h : tq_H} {o : Int64} {Q : tq_R → tq_H → Prop} (hf : f_X3_nodesOf t a1 h = some o) (hQ : ∀ r h9, r = .inl (some (.long o)) ∧ h = h9 → Q r h9) : tq_C l yX3_nodesOf cX3_nodesOf 6 (some .long) d 0 0 [.ref t, .long a1] h Q := by
  refine tq_body (y := yX3_nodesOf) false (by decide +kernel) (fun z => by cases z) (Nat.le_of_ble_eq_true rfl) ?_
  show tq_W l mX3_nodesOf d 0 0 Q 0 [(0, .ref t), (1, .long a1)] [] h
  refine tq_lconst (M := mX3_nodesOf) (pc := 0) dX3_nodesOf_0 tk_kl_0 ?_
  refine tq_lstore_n (M := mX3_nodesOf) (pc := 1) rfl dX3_nodesOf_1 (L2 := [(3, .long (0 : Int64)), (0, .ref t), (1, .long a1)]) (by decide) rfl ?_
  refine tq_iconst (M := mX3_nodesOf) (pc := 2) dX3_nodesOf_2 tk_ki_0 ?_
  refine tq_istore (M := mX3_nodesOf) (pc := 3) dX3_nodesOf_3 (L2 := [(5, .int (0 : Int32)), (3, .long (0 : Int64)), (0, .ref t), (1, .long a1)]) (by decide) rfl ?_
  obtain ⟨o10, eo10, hf⟩ := tq_be hf
  refine tq_pick (L2 := [(0, .ref t), (1, .long a1), (3, .long (0 : Int64)), (5, .int (0 : Int32))]) [2, 3, 1, 0] rfl ?_
  refine l_X3_nodesOf_5 (by omega) t a1 h _ (0 : Int64) (0 : Int32) _ eo10 ?_
  refine tq_lload_n (M := mX3_nodesOf) (pc := 44) dX3_nodesOf_44 rfl ?_
  refine tq_lret (M := mX3_nodesOf) (pc := 45) dX3_nodesOf_45 rfl ?_
  cases (Option.some.inj hf)
  exact hQ _ _ ⟨rfl, rfl⟩
abbrev mX3_spotsOf : tq_M := (RX3, cX3_spotsOf, 6, (some .long), false, [])
def f_X3_spotsOf_b5 (i0 : Nat) (i1 : Int64) (hh : tq_H) (s : Int64 × Int32) : Option ((Int64 × Int32) ⊕ (Int64)) := match s with
  | (y3, y5) =>
    (tq_gi hh i0 3 12).bind fun x1 =>
    if y5 ≥ x1 then
      some (.inr y3)
    else
      (tq_gr hh i0 3 0).bind fun r2 =>
      (tq_is hh r2 5).bind fun _ =>
      (f_X5_get r2 y5 hh).bind fun v3 =>
      (f_X0_holds i1 v3 hh).bind fun v5 =>
      (if v5 = 0 then
        some y3
      else
        (f_X0_one y5 hh).bind fun v6 =>
        tq_let ((y3 ||| v6)) fun x7 =>
        some x7).bind fun p8 =>
      tq_let (y5 + (1 : Int32)) fun x9 =>
      some (.inl (p8, x9))
def f_X3_spotsOf (t : Nat) (a1 : Int64) (h : tq_H) : Option (Int64) :=
  (tq_loop (f_X3_spotsOf_b5 t a1 h) tq_N ((0 : Int64), (0 : Int32))).bind fun o10 =>
  some o10
set_option maxHeartbeats 4000000 in
theorem l_X3_spotsOf_5 {l : Launch} {d : Nat} {Q : tq_R → tq_H → Prop} (hd9 : 1 ≤ d) (i0 : Nat) (i1 : Int64) (hh : tq_H) : ∀ (n : Nat) (y3 : Int64) (y5 : Int32) (o : Int64), tq_loop (f_X3_spotsOf_b5 i0 i1 hh) n (y3, y5) = some o → tq_W l mX3_spotsOf d 0 0 Q 44 [(3, .long o)] [] hh → tq_W l mX3_spotsOf d 0 0 Q 5 [(0, .ref i0), (1, .long i1), (3, .long y3), (5, .int y5)] [] hh := by
  intro n
  induction n with
  | zero => intro y3 y5 o hl; cases hl
  | succ n ih =>
    intro y3 y5 o hl hk
    obtain ⟨oo, hf, ho⟩ := tq_loop_s hl
    refine tq_iload (M := mX3_spotsOf) (pc := 5) dX3_spotsOf_5 rfl ?_
    refine tq_aload_n (M := mX3_spotsOf) (pc := 7) dX3_spotsOf_7 rfl ?_
    obtain ⟨x1, ex1, hf⟩ := tq_be hf
    refine tq_getI (M := mX3_spotsOf) (pc := 8) tk_c3 (by decide) dX3_spotsOf_8 tk_RX3_60 rfl ex1 ?_
    refine tq_icmp_ge (M := mX3_spotsOf) (pc := 11) (tgt := 44) dX3_spotsOf_11 (by decide) (fun cc => ?_) (fun cc => ?_)
    · have hf := tq_ifp hf cc
      refine tq_pick (L2 := [(3, .long y3)]) [2] rfl ?_
      cases (Option.some.inj hf)
      cases (tq_lx ho)
      exact hk
    · have hf := tq_ifn hf cc
      refine tq_lload_n (M := mX3_spotsOf) (pc := 14) dX3_spotsOf_14 rfl ?_
      refine tq_aload_n (M := mX3_spotsOf) (pc := 15) dX3_spotsOf_15 rfl ?_
      obtain ⟨r2, er2, hf⟩ := tq_be hf
      refine tq_getR (M := mX3_spotsOf) (pc := 16) tk_c3 (by decide) dX3_spotsOf_16 tk_RX3_14 rfl er2 ?_
      refine tq_iload (M := mX3_spotsOf) (pc := 19) dX3_spotsOf_19 rfl ?_
      obtain ⟨⟨⟩, eu4, hf⟩ := tq_be hf
      obtain ⟨fsu4, eu4⟩ := tq_is_s eu4
      obtain ⟨v3, ev3, hf⟩ := tq_be hf
      refine tq_calV (M := mX3_spotsOf) (pc := 21) (S := [.long i1]) tk_y_X5_get tk_v_X5_get tk_RX3_88 dX3_spotsOf_21 [.int y5] rfl (S0 := _) rfl eu4 rfl (Nat.le_of_ble_eq_true rfl) (d1 := d - 1) (b1 := 0) (s1 := 0) (bc' := 0) (bs' := 0) (Q1 := fun r h9 => r = .inl (some (.int v3)) ∧ hh = h9) (by omega) rfl rfl (w_X5_get (by omega) ev3 (fun _ _ q => q)) (fun E h9 q => nomatch (show (Sum.inr E : tq_R) = Sum.inl _ from q.1)) (fun r9 h9 q => ?_)
      obtain ⟨q1, rfl⟩ := q
      cases (show (Sum.inl r9 : tq_R) = Sum.inl (some (.int v3)) from q1)
      obtain ⟨v5, ev5, hf⟩ := tq_be hf
      refine tq_calS (M := mX3_spotsOf) (pc := 24) (S := []) tk_y_X0_holds tk_s_X0_holds tk_RX3_101 dX3_spotsOf_24 [.long i1, .int v3] rfl (Nat.le_of_ble_eq_true rfl) (d1 := d - 1) (b1 := 0) (s1 := 0) (bc' := 0) (bs' := 0) (Q1 := fun r h9 => r = .inl (some (.int v5)) ∧ hh = h9) (by omega) rfl rfl (w_X0_holds (by omega) ev5 (fun _ _ q => q)) (fun E h9 q => nomatch (show (Sum.inr E : tq_R) = Sum.inl _ from q.1)) (fun r9 h9 q => ?_)
      obtain ⟨q1, rfl⟩ := q
      cases (show (Sum.inl r9 : tq_R) = Sum.inl (some (.int v5)) from q1)
      obtain ⟨p8, ep8, hf⟩ := tq_be hf
      have HJ27 : tq_W l mX3_spotsOf d 0 0 Q 38 [(0, .ref i0), (1, .long i1), (3, .long p8), (5, .int y5)] [] hh := by
        obtain ⟨x9, ex9, hf⟩ := tq_le hf
        refine tq_iinc (M := mX3_spotsOf) (pc := 38) (v := x9) (L2 := [(5, .int x9), (0, .ref i0), (1, .long i1), (3, .long p8)]) dX3_spotsOf_38 rfl (by rw [ex9, tk_ki_1]) (by decide) rfl ?_
        refine tq_goto (M := mX3_spotsOf) (pc := 41) (tgt := 5) dX3_spotsOf_41 (by decide) ?_
        refine tq_pick (L2 := [(0, .ref i0), (1, .long i1), (3, .long p8), (5, .int x9)]) [1, 2, 3, 0] rfl ?_
        cases (Option.some.inj hf)
        exact ih _ _ o (tq_lc ho) hk
      refine tq_if_eq (M := mX3_spotsOf) (pc := 27) (tgt := 38) dX3_spotsOf_27 (by decide) (fun cc => ?_) (fun cc => ?_)
      · have hf := tq_ifp ep8 cc
        cases (Option.some.inj hf)
        exact HJ27
      · have hf := tq_ifn ep8 cc
        refine tq_lload_n (M := mX3_spotsOf) (pc := 30) dX3_spotsOf_30 rfl ?_
        refine tq_iload (M := mX3_spotsOf) (pc := 31) dX3_spotsOf_31 rfl ?_
        obtain ⟨v6, ev6, hf⟩ := tq_be hf
        refine tq_calS (M := mX3_spotsOf) (pc := 33) (S := [.long y3]) tk_y_X0_one tk_s_X0_one tk_RX3_80 dX3_spotsOf_33 [.int y5] rfl (Nat.le_of_ble_eq_true rfl) (d1 := d - 1) (b1 := 0) (s1 := 0) (bc' := 0) (bs' := 0) (Q1 := fun r h9 => r = .inl (some (.long v6)) ∧ hh = h9) (by omega) rfl rfl (w_X0_one (by omega) ev6 (fun _ _ q => q)) (fun E h9 q => nomatch (show (Sum.inr E : tq_R) = Sum.inl _ from q.1)) (fun r9 h9 q => ?_)
        obtain ⟨q1, rfl⟩ := q
        cases (show (Sum.inl r9 : tq_R) = Sum.inl (some (.long v6)) from q1)
        refine tq_lor (M := mX3_spotsOf) (pc := 36) dX3_spotsOf_36 ?_
        obtain ⟨x7, ex7, hf⟩ := tq_le hf
        refine tq_lstore_n (M := mX3_spotsOf) (pc := 37) rfl dX3_spotsOf_37 (L2 := [(3, .long x7), (0, .ref i0), (1, .long i1), (5, .int y5)]) (by decide) (by rw [ex7]; rfl) ?_
        refine tq_pick (L2 := [(0, .ref i0), (1, .long i1), (3, .long x7), (5, .int y5)]) [1, 2, 0, 3] rfl ?_
        cases (Option.some.inj hf)
        exact HJ27
set_option maxHeartbeats 4000000 in
set_option maxRecDepth 20000 in
theorem w_X3_spotsOf {l : Launch} {d : Nat} (hd9 : 1 ≤ d) {t : Nat} {a1 : Int64} {h : tq_H} {o : Int64} {Q : tq_R → tq_H → Prop} (hf : f_X3_spotsOf t a1 h = some o) (hQ : ∀ r h9, r = .inl (some (.long o)) ∧ h = h9 → Q r h9) : tq_C l yX3_spotsOf cX3_spotsOf 6 (some .long) d 0 0 [.ref t, .long a1] h Q := by
  refine tq_body (y := yX3_spotsOf) false (by decide +kernel) (fun z => by cases z) (Nat.le_of_ble_eq_true rfl) ?_
  show tq_W l mX3_spotsOf d 0 0 Q 0 [(0, .ref t), (1, .long a1)] [] h
  refine tq_lconst (M := mX3_spotsOf) (pc := 0) dX3_spotsOf_0 tk_kl_0 ?_
  refine tq_lstore_n (M := mX3_spotsOf) (pc := 1) rfl dX3_spotsOf_1 (L2 := [(3, .long (0 : Int64)), (0, .ref t), (1, .long a1)]) (by decide) rfl ?_
  refine tq_iconst (M := mX3_spotsOf) (pc := 2) dX3_spotsOf_2 tk_ki_0 ?_
  refine tq_istore (M := mX3_spotsOf) (pc := 3) dX3_spotsOf_3 (L2 := [(5, .int (0 : Int32)), (3, .long (0 : Int64)), (0, .ref t), (1, .long a1)]) (by decide) rfl ?_
  obtain ⟨o10, eo10, hf⟩ := tq_be hf
  refine tq_pick (L2 := [(0, .ref t), (1, .long a1), (3, .long (0 : Int64)), (5, .int (0 : Int32))]) [2, 3, 1, 0] rfl ?_
  refine l_X3_spotsOf_5 (by omega) t a1 h _ (0 : Int64) (0 : Int32) _ eo10 ?_
  refine tq_lload_n (M := mX3_spotsOf) (pc := 44) dX3_spotsOf_44 rfl ?_
  refine tq_lret (M := mX3_spotsOf) (pc := 45) dX3_spotsOf_45 rfl ?_
  cases (Option.some.inj hf)
  exact hQ _ _ ⟨rfl, rfl⟩
abbrev mX4_init : tq_M := (RX4, cX4_init, 1, none, true, [])
def f_X4_init (t : Nat) (h : tq_H) : Option (tq_H) :=
  tq_let (tq_new h (.inl (5, [.null]))) fun h1 =>
  (f_X5_init h.1 (20 : Int32) (0 : Int32) h1).bind fun v2 =>
  (tq_pf v2 t 4 0 (.ref h.1)).bind fun h3 =>
  tq_let (tq_new h3 (.inl (5, [.null]))) fun h4 =>
  (f_X5_init h3.1 (100 : Int32) (-1 : Int32) h4).bind fun v5 =>
  (tq_pf v5 t 4 1 (.ref h3.1)).bind fun h6 =>
  tq_let (tq_new h6 (.inl (5, [.null]))) fun h7 =>
  (f_X5_init h6.1 (100 : Int32) (-1 : Int32) h7).bind fun v8 =>
  (tq_pf v8 t 4 2 (.ref h6.1)).bind fun h9 =>
  tq_let (tq_new h9 (.inl (5, [.null]))) fun h10 =>
  (f_X5_init h9.1 (100 : Int32) (-1 : Int32) h10).bind fun v11 =>
  (tq_pf v11 t 4 3 (.ref h9.1)).bind fun h12 =>
  tq_let (tq_new h12 (.inl (5, [.null]))) fun h13 =>
  (f_X5_init h12.1 (100 : Int32) (0 : Int32) h13).bind fun v14 =>
  (tq_pf v14 t 4 4 (.ref h12.1)).bind fun h15 =>
  tq_let (tq_new h15 (.inl (5, [.null]))) fun h16 =>
  (f_X5_init h15.1 (200 : Int32) (-1 : Int32) h16).bind fun v17 =>
  (tq_pf v17 t 4 5 (.ref h15.1)).bind fun h18 =>
  tq_let (tq_new h18 (.inl (5, [.null]))) fun h19 =>
  (f_X5_init h18.1 (200 : Int32) (-1 : Int32) h19).bind fun v20 =>
  (tq_pf v20 t 4 6 (.ref h18.1)).bind fun h21 =>
  tq_let (tq_new h21 (.inl (5, [.null]))) fun h22 =>
  (f_X5_init h21.1 (200 : Int32) (-1 : Int32) h22).bind fun v23 =>
  (tq_pf v23 t 4 7 (.ref h21.1)).bind fun h24 =>
  tq_let (tq_new h24 (.inl (5, [.null]))) fun h25 =>
  (f_X5_init h24.1 (200 : Int32) (-1 : Int32) h25).bind fun v26 =>
  (tq_pf v26 t 4 8 (.ref h24.1)).bind fun h27 =>
  (tq_pf h27 t 4 9 (.int (0 : Int32))).bind fun h28 =>
  some h28
set_option maxHeartbeats 4000000 in
set_option maxRecDepth 20000 in
theorem w_X4_init {l : Launch} {d : Nat} (hd9 : 2 ≤ d) {t : Nat} {h : tq_H} {o : tq_H} {Q : tq_R → tq_H → Prop} (hf : f_X4_init t h = some o) (hQ : ∀ r h9, r = .inl none ∧ o = h9 → Q r h9) : tq_C l yX4_init cX4_init 1 none d 18 1229 [.ref t] h Q := by
  refine tq_body (y := yX4_init) true (by decide +kernel) (fun _ => rfl) (Nat.le_of_ble_eq_true rfl) ?_
  show tq_W l mX4_init d 18 1229 Q 0 [(0, .ref t)] [] h
  refine tq_aload_n (M := mX4_init) (pc := 0) dX4_init_0 rfl ?_
  refine tq_objinit (M := mX4_init) (pc := 1) dX4_init_1 tk_RX4_3 tk_oi tk_oc (by omega) (Nat.le_of_ble_eq_true rfl) ?_
  refine tq_aload_n (M := mX4_init) (pc := 4) dX4_init_4 rfl ?_
  obtain ⟨h1, eh1, hf⟩ := tq_le hf
  refine tq_newo (M := mX4_init) (pc := 5) tk_c5 dX4_init_5 tk_RX4_9 tk_in5 tk_ini5 (fs := [.null]) (fun j hj => by rcases (show j = 0 by omega) with rfl <;> rfl) (fun _ => ⟨rfl, trivial⟩) (bc' := 17) (bs' := 1228) rfl rfl ?_
  rw [← eh1]
  refine tq_dup (M := mX4_init) (pc := 8) dX4_init_8 rfl ?_
  refine tq_bipush (M := mX4_init) (pc := 9) dX4_init_9 tk_kb_20 ?_
  refine tq_iconst (M := mX4_init) (pc := 11) dX4_init_11 tk_ki_0 ?_
  obtain ⟨v2, ev2, hf⟩ := tq_be hf
  refine tq_calI (M := mX4_init) (pc := 12) (S := [.ref h.1, .ref t]) tk_y_X5_init tk_v_X5_init rfl (Or.inl tk_RX4_11) dX4_init_12 [.int (20 : Int32), .int (0 : Int32)] rfl (Nat.le_of_ble_eq_true rfl) (d1 := d - 1) (b1 := 1) (s1 := 20) (bc' := 16) (bs' := 1208) (Q1 := fun r h9 => r = .inl none ∧ v2 = h9) (by omega) rfl rfl (w_X5_init (by omega) (N := 20) (by decide +kernel) (by decide +kernel) (by decide) ev2 (fun _ _ q => q)) (fun E h9 q => nomatch (show (Sum.inr E : tq_R) = Sum.inl _ from q.1)) (fun r9 h9 q => ?_)
  obtain ⟨q1, rfl⟩ := q
  cases (show (Sum.inl r9 : tq_R) = Sum.inl (none) from q1)
  obtain ⟨h3, eh3, hf⟩ := tq_be hf
  refine tq_putv (M := mX4_init) (pc := 15) tk_c4 (by decide) dX4_init_15 tk_RX4_14 rfl (Or.inr ⟨rfl, rfl⟩) eh3 (tq_nR _ _) ?_
  refine tq_aload_n (M := mX4_init) (pc := 18) dX4_init_18 rfl ?_
  obtain ⟨h4, eh4, hf⟩ := tq_le hf
  refine tq_newo (M := mX4_init) (pc := 19) tk_c5 dX4_init_19 tk_RX4_9 tk_in5 tk_ini5 (fs := [.null]) (fun j hj => by rcases (show j = 0 by omega) with rfl <;> rfl) (fun _ => ⟨rfl, trivial⟩) (bc' := 15) (bs' := 1207) rfl rfl ?_
  rw [← eh4]
  refine tq_dup (M := mX4_init) (pc := 22) dX4_init_22 rfl ?_
  refine tq_bipush (M := mX4_init) (pc := 23) dX4_init_23 tk_kb_100 ?_
  refine tq_iconst (M := mX4_init) (pc := 25) dX4_init_25 tk_ki_m1 ?_
  obtain ⟨v5, ev5, hf⟩ := tq_be hf
  refine tq_calI (M := mX4_init) (pc := 26) (S := [.ref h3.1, .ref t]) tk_y_X5_init tk_v_X5_init rfl (Or.inl tk_RX4_11) dX4_init_26 [.int (100 : Int32), .int (-1 : Int32)] rfl (Nat.le_of_ble_eq_true rfl) (d1 := d - 1) (b1 := 1) (s1 := 100) (bc' := 14) (bs' := 1107) (Q1 := fun r h9 => r = .inl none ∧ v5 = h9) (by omega) rfl rfl (w_X5_init (by omega) (N := 100) (by decide +kernel) (by decide +kernel) (by decide) ev5 (fun _ _ q => q)) (fun E h9 q => nomatch (show (Sum.inr E : tq_R) = Sum.inl _ from q.1)) (fun r9 h9 q => ?_)
  obtain ⟨q1, rfl⟩ := q
  cases (show (Sum.inl r9 : tq_R) = Sum.inl (none) from q1)
  obtain ⟨h6, eh6, hf⟩ := tq_be hf
  refine tq_putv (M := mX4_init) (pc := 29) tk_c4 (by decide) dX4_init_29 tk_RX4_20 rfl (Or.inr ⟨rfl, rfl⟩) eh6 (tq_nR _ _) ?_
  refine tq_aload_n (M := mX4_init) (pc := 32) dX4_init_32 rfl ?_
  obtain ⟨h7, eh7, hf⟩ := tq_le hf
  refine tq_newo (M := mX4_init) (pc := 33) tk_c5 dX4_init_33 tk_RX4_9 tk_in5 tk_ini5 (fs := [.null]) (fun j hj => by rcases (show j = 0 by omega) with rfl <;> rfl) (fun _ => ⟨rfl, trivial⟩) (bc' := 13) (bs' := 1106) rfl rfl ?_
  rw [← eh7]
  refine tq_dup (M := mX4_init) (pc := 36) dX4_init_36 rfl ?_
  refine tq_bipush (M := mX4_init) (pc := 37) dX4_init_37 tk_kb_100 ?_
  refine tq_iconst (M := mX4_init) (pc := 39) dX4_init_39 tk_ki_m1 ?_
  obtain ⟨v8, ev8, hf⟩ := tq_be hf
  refine tq_calI (M := mX4_init) (pc := 40) (S := [.ref h6.1, .ref t]) tk_y_X5_init tk_v_X5_init rfl (Or.inl tk_RX4_11) dX4_init_40 [.int (100 : Int32), .int (-1 : Int32)] rfl (Nat.le_of_ble_eq_true rfl) (d1 := d - 1) (b1 := 1) (s1 := 100) (bc' := 12) (bs' := 1006) (Q1 := fun r h9 => r = .inl none ∧ v8 = h9) (by omega) rfl rfl (w_X5_init (by omega) (N := 100) (by decide +kernel) (by decide +kernel) (by decide) ev8 (fun _ _ q => q)) (fun E h9 q => nomatch (show (Sum.inr E : tq_R) = Sum.inl _ from q.1)) (fun r9 h9 q => ?_)
  obtain ⟨q1, rfl⟩ := q
  cases (show (Sum.inl r9 : tq_R) = Sum.inl (none) from q1)
  obtain ⟨h9, eh9, hf⟩ := tq_be hf
  refine tq_putv (M := mX4_init) (pc := 43) tk_c4 (by decide) dX4_init_43 tk_RX4_23 rfl (Or.inr ⟨rfl, rfl⟩) eh9 (tq_nR _ _) ?_
  refine tq_aload_n (M := mX4_init) (pc := 46) dX4_init_46 rfl ?_
  obtain ⟨h10, eh10, hf⟩ := tq_le hf
  refine tq_newo (M := mX4_init) (pc := 47) tk_c5 dX4_init_47 tk_RX4_9 tk_in5 tk_ini5 (fs := [.null]) (fun j hj => by rcases (show j = 0 by omega) with rfl <;> rfl) (fun _ => ⟨rfl, trivial⟩) (bc' := 11) (bs' := 1005) rfl rfl ?_
  rw [← eh10]
  refine tq_dup (M := mX4_init) (pc := 50) dX4_init_50 rfl ?_
  refine tq_bipush (M := mX4_init) (pc := 51) dX4_init_51 tk_kb_100 ?_
  refine tq_iconst (M := mX4_init) (pc := 53) dX4_init_53 tk_ki_m1 ?_
  obtain ⟨v11, ev11, hf⟩ := tq_be hf
  refine tq_calI (M := mX4_init) (pc := 54) (S := [.ref h9.1, .ref t]) tk_y_X5_init tk_v_X5_init rfl (Or.inl tk_RX4_11) dX4_init_54 [.int (100 : Int32), .int (-1 : Int32)] rfl (Nat.le_of_ble_eq_true rfl) (d1 := d - 1) (b1 := 1) (s1 := 100) (bc' := 10) (bs' := 905) (Q1 := fun r h9 => r = .inl none ∧ v11 = h9) (by omega) rfl rfl (w_X5_init (by omega) (N := 100) (by decide +kernel) (by decide +kernel) (by decide) ev11 (fun _ _ q => q)) (fun E h9 q => nomatch (show (Sum.inr E : tq_R) = Sum.inl _ from q.1)) (fun r9 h9 q => ?_)
  obtain ⟨q1, rfl⟩ := q
  cases (show (Sum.inl r9 : tq_R) = Sum.inl (none) from q1)
  obtain ⟨h12, eh12, hf⟩ := tq_be hf
  refine tq_putv (M := mX4_init) (pc := 57) tk_c4 (by decide) dX4_init_57 tk_RX4_26 rfl (Or.inr ⟨rfl, rfl⟩) eh12 (tq_nR _ _) ?_
  refine tq_aload_n (M := mX4_init) (pc := 60) dX4_init_60 rfl ?_
  obtain ⟨h13, eh13, hf⟩ := tq_le hf
  refine tq_newo (M := mX4_init) (pc := 61) tk_c5 dX4_init_61 tk_RX4_9 tk_in5 tk_ini5 (fs := [.null]) (fun j hj => by rcases (show j = 0 by omega) with rfl <;> rfl) (fun _ => ⟨rfl, trivial⟩) (bc' := 9) (bs' := 904) rfl rfl ?_
  rw [← eh13]
  refine tq_dup (M := mX4_init) (pc := 64) dX4_init_64 rfl ?_
  refine tq_bipush (M := mX4_init) (pc := 65) dX4_init_65 tk_kb_100 ?_
  refine tq_iconst (M := mX4_init) (pc := 67) dX4_init_67 tk_ki_0 ?_
  obtain ⟨v14, ev14, hf⟩ := tq_be hf
  refine tq_calI (M := mX4_init) (pc := 68) (S := [.ref h12.1, .ref t]) tk_y_X5_init tk_v_X5_init rfl (Or.inl tk_RX4_11) dX4_init_68 [.int (100 : Int32), .int (0 : Int32)] rfl (Nat.le_of_ble_eq_true rfl) (d1 := d - 1) (b1 := 1) (s1 := 100) (bc' := 8) (bs' := 804) (Q1 := fun r h9 => r = .inl none ∧ v14 = h9) (by omega) rfl rfl (w_X5_init (by omega) (N := 100) (by decide +kernel) (by decide +kernel) (by decide) ev14 (fun _ _ q => q)) (fun E h9 q => nomatch (show (Sum.inr E : tq_R) = Sum.inl _ from q.1)) (fun r9 h9 q => ?_)
  obtain ⟨q1, rfl⟩ := q
  cases (show (Sum.inl r9 : tq_R) = Sum.inl (none) from q1)
  obtain ⟨h15, eh15, hf⟩ := tq_be hf
  refine tq_putv (M := mX4_init) (pc := 71) tk_c4 (by decide) dX4_init_71 tk_RX4_29 rfl (Or.inr ⟨rfl, rfl⟩) eh15 (tq_nR _ _) ?_
  refine tq_aload_n (M := mX4_init) (pc := 74) dX4_init_74 rfl ?_
  obtain ⟨h16, eh16, hf⟩ := tq_le hf
  refine tq_newo (M := mX4_init) (pc := 75) tk_c5 dX4_init_75 tk_RX4_9 tk_in5 tk_ini5 (fs := [.null]) (fun j hj => by rcases (show j = 0 by omega) with rfl <;> rfl) (fun _ => ⟨rfl, trivial⟩) (bc' := 7) (bs' := 803) rfl rfl ?_
  rw [← eh16]
  refine tq_dup (M := mX4_init) (pc := 78) dX4_init_78 rfl ?_
  refine tq_sipush (M := mX4_init) (pc := 79) dX4_init_79 tk_ks_200 ?_
  refine tq_iconst (M := mX4_init) (pc := 82) dX4_init_82 tk_ki_m1 ?_
  obtain ⟨v17, ev17, hf⟩ := tq_be hf
  refine tq_calI (M := mX4_init) (pc := 83) (S := [.ref h15.1, .ref t]) tk_y_X5_init tk_v_X5_init rfl (Or.inl tk_RX4_11) dX4_init_83 [.int (200 : Int32), .int (-1 : Int32)] rfl (Nat.le_of_ble_eq_true rfl) (d1 := d - 1) (b1 := 1) (s1 := 200) (bc' := 6) (bs' := 603) (Q1 := fun r h9 => r = .inl none ∧ v17 = h9) (by omega) rfl rfl (w_X5_init (by omega) (N := 200) (by decide +kernel) (by decide +kernel) (by decide) ev17 (fun _ _ q => q)) (fun E h9 q => nomatch (show (Sum.inr E : tq_R) = Sum.inl _ from q.1)) (fun r9 h9 q => ?_)
  obtain ⟨q1, rfl⟩ := q
  cases (show (Sum.inl r9 : tq_R) = Sum.inl (none) from q1)
  obtain ⟨h18, eh18, hf⟩ := tq_be hf
  refine tq_putv (M := mX4_init) (pc := 86) tk_c4 (by decide) dX4_init_86 tk_RX4_32 rfl (Or.inr ⟨rfl, rfl⟩) eh18 (tq_nR _ _) ?_
  refine tq_aload_n (M := mX4_init) (pc := 89) dX4_init_89 rfl ?_
  obtain ⟨h19, eh19, hf⟩ := tq_le hf
  refine tq_newo (M := mX4_init) (pc := 90) tk_c5 dX4_init_90 tk_RX4_9 tk_in5 tk_ini5 (fs := [.null]) (fun j hj => by rcases (show j = 0 by omega) with rfl <;> rfl) (fun _ => ⟨rfl, trivial⟩) (bc' := 5) (bs' := 602) rfl rfl ?_
  rw [← eh19]
  refine tq_dup (M := mX4_init) (pc := 93) dX4_init_93 rfl ?_
  refine tq_sipush (M := mX4_init) (pc := 94) dX4_init_94 tk_ks_200 ?_
  refine tq_iconst (M := mX4_init) (pc := 97) dX4_init_97 tk_ki_m1 ?_
  obtain ⟨v20, ev20, hf⟩ := tq_be hf
  refine tq_calI (M := mX4_init) (pc := 98) (S := [.ref h18.1, .ref t]) tk_y_X5_init tk_v_X5_init rfl (Or.inl tk_RX4_11) dX4_init_98 [.int (200 : Int32), .int (-1 : Int32)] rfl (Nat.le_of_ble_eq_true rfl) (d1 := d - 1) (b1 := 1) (s1 := 200) (bc' := 4) (bs' := 402) (Q1 := fun r h9 => r = .inl none ∧ v20 = h9) (by omega) rfl rfl (w_X5_init (by omega) (N := 200) (by decide +kernel) (by decide +kernel) (by decide) ev20 (fun _ _ q => q)) (fun E h9 q => nomatch (show (Sum.inr E : tq_R) = Sum.inl _ from q.1)) (fun r9 h9 q => ?_)
  obtain ⟨q1, rfl⟩ := q
  cases (show (Sum.inl r9 : tq_R) = Sum.inl (none) from q1)
  obtain ⟨h21, eh21, hf⟩ := tq_be hf
  refine tq_putv (M := mX4_init) (pc := 101) tk_c4 (by decide) dX4_init_101 tk_RX4_35 rfl (Or.inr ⟨rfl, rfl⟩) eh21 (tq_nR _ _) ?_
  refine tq_aload_n (M := mX4_init) (pc := 104) dX4_init_104 rfl ?_
  obtain ⟨h22, eh22, hf⟩ := tq_le hf
  refine tq_newo (M := mX4_init) (pc := 105) tk_c5 dX4_init_105 tk_RX4_9 tk_in5 tk_ini5 (fs := [.null]) (fun j hj => by rcases (show j = 0 by omega) with rfl <;> rfl) (fun _ => ⟨rfl, trivial⟩) (bc' := 3) (bs' := 401) rfl rfl ?_
  rw [← eh22]
  refine tq_dup (M := mX4_init) (pc := 108) dX4_init_108 rfl ?_
  refine tq_sipush (M := mX4_init) (pc := 109) dX4_init_109 tk_ks_200 ?_
  refine tq_iconst (M := mX4_init) (pc := 112) dX4_init_112 tk_ki_m1 ?_
  obtain ⟨v23, ev23, hf⟩ := tq_be hf
  refine tq_calI (M := mX4_init) (pc := 113) (S := [.ref h21.1, .ref t]) tk_y_X5_init tk_v_X5_init rfl (Or.inl tk_RX4_11) dX4_init_113 [.int (200 : Int32), .int (-1 : Int32)] rfl (Nat.le_of_ble_eq_true rfl) (d1 := d - 1) (b1 := 1) (s1 := 200) (bc' := 2) (bs' := 201) (Q1 := fun r h9 => r = .inl none ∧ v23 = h9) (by omega) rfl rfl (w_X5_init (by omega) (N := 200) (by decide +kernel) (by decide +kernel) (by decide) ev23 (fun _ _ q => q)) (fun E h9 q => nomatch (show (Sum.inr E : tq_R) = Sum.inl _ from q.1)) (fun r9 h9 q => ?_)
  obtain ⟨q1, rfl⟩ := q
  cases (show (Sum.inl r9 : tq_R) = Sum.inl (none) from q1)
  obtain ⟨h24, eh24, hf⟩ := tq_be hf
  refine tq_putv (M := mX4_init) (pc := 116) tk_c4 (by decide) dX4_init_116 tk_RX4_38 rfl (Or.inr ⟨rfl, rfl⟩) eh24 (tq_nR _ _) ?_
  refine tq_aload_n (M := mX4_init) (pc := 119) dX4_init_119 rfl ?_
  obtain ⟨h25, eh25, hf⟩ := tq_le hf
  refine tq_newo (M := mX4_init) (pc := 120) tk_c5 dX4_init_120 tk_RX4_9 tk_in5 tk_ini5 (fs := [.null]) (fun j hj => by rcases (show j = 0 by omega) with rfl <;> rfl) (fun _ => ⟨rfl, trivial⟩) (bc' := 1) (bs' := 200) rfl rfl ?_
  rw [← eh25]
  refine tq_dup (M := mX4_init) (pc := 123) dX4_init_123 rfl ?_
  refine tq_sipush (M := mX4_init) (pc := 124) dX4_init_124 tk_ks_200 ?_
  refine tq_iconst (M := mX4_init) (pc := 127) dX4_init_127 tk_ki_m1 ?_
  obtain ⟨v26, ev26, hf⟩ := tq_be hf
  refine tq_calI (M := mX4_init) (pc := 128) (S := [.ref h24.1, .ref t]) tk_y_X5_init tk_v_X5_init rfl (Or.inl tk_RX4_11) dX4_init_128 [.int (200 : Int32), .int (-1 : Int32)] rfl (Nat.le_of_ble_eq_true rfl) (d1 := d - 1) (b1 := 1) (s1 := 200) (bc' := 0) (bs' := 0) (Q1 := fun r h9 => r = .inl none ∧ v26 = h9) (by omega) rfl rfl (w_X5_init (by omega) (N := 200) (by decide +kernel) (by decide +kernel) (by decide) ev26 (fun _ _ q => q)) (fun E h9 q => nomatch (show (Sum.inr E : tq_R) = Sum.inl _ from q.1)) (fun r9 h9 q => ?_)
  obtain ⟨q1, rfl⟩ := q
  cases (show (Sum.inl r9 : tq_R) = Sum.inl (none) from q1)
  obtain ⟨h27, eh27, hf⟩ := tq_be hf
  refine tq_putv (M := mX4_init) (pc := 131) tk_c4 (by decide) dX4_init_131 tk_RX4_41 rfl (Or.inr ⟨rfl, rfl⟩) eh27 (tq_nR _ _) ?_
  refine tq_aload_n (M := mX4_init) (pc := 134) dX4_init_134 rfl ?_
  refine tq_iconst (M := mX4_init) (pc := 135) dX4_init_135 tk_ki_0 ?_
  obtain ⟨h28, eh28, hf⟩ := tq_be hf
  refine tq_putv (M := mX4_init) (pc := 136) tk_c4 (by decide) dX4_init_136 tk_RX4_44 rfl (Or.inl rfl) eh28 (tq_nI _) ?_
  refine tq_vret (M := mX4_init) (pc := 139) dX4_init_139 rfl ?_
  cases (Option.some.inj hf)
  exact hQ _ _ ⟨rfl, rfl⟩
abbrev mX4_count : tq_M := (RX4, cX4_count, 1, (some .int), false, [])
def f_X4_count (t : Nat) (h : tq_H) : Option (Int32) :=
  (tq_gi h t 4 9).bind fun x1 =>
  some x1
set_option maxHeartbeats 4000000 in
set_option maxRecDepth 20000 in
theorem w_X4_count {l : Launch} {d : Nat} (hd9 : 0 ≤ d) {t : Nat} {h : tq_H} {o : Int32} {Q : tq_R → tq_H → Prop} (hf : f_X4_count t h = some o) (hQ : ∀ r h9, r = .inl (some (.int o)) ∧ h = h9 → Q r h9) : tq_C l yX4_count cX4_count 1 (some .int) d 0 0 [.ref t] h Q := by
  refine tq_body (y := yX4_count) false (by decide +kernel) (fun z => by cases z) (Nat.le_of_ble_eq_true rfl) ?_
  show tq_W l mX4_count d 0 0 Q 0 [(0, .ref t)] [] h
  refine tq_aload_n (M := mX4_count) (pc := 0) dX4_count_0 rfl ?_
  obtain ⟨x1, ex1, hf⟩ := tq_be hf
  refine tq_getI (M := mX4_count) (pc := 1) tk_c4 (by decide) dX4_count_1 tk_RX4_44 rfl ex1 ?_
  refine tq_iret (M := mX4_count) (pc := 4) dX4_count_4 rfl ?_
  cases (Option.some.inj hf)
  exact hQ _ _ ⟨rfl, rfl⟩
abbrev mX4_addPath : tq_M := (RX4, cX4_addPath, 1, (some .int), false, [])
def f_X4_addPath (t : Nat) (h : tq_H) : Option (Int32 × tq_H) :=
  (tq_gi h t 4 9).bind fun x1 =>
  (tq_pf h t 4 9 (.int ((x1 + (1 : Int32))))).bind fun h2 =>
  (tq_gi h2 t 4 9).bind fun x3 =>
  some ((x3 - (1 : Int32)), h2)
set_option maxHeartbeats 4000000 in
set_option maxRecDepth 20000 in
theorem w_X4_addPath {l : Launch} {d : Nat} (hd9 : 0 ≤ d) {t : Nat} {h : tq_H} {o : Int32 × tq_H} {Q : tq_R → tq_H → Prop} (hf : f_X4_addPath t h = some o) (hQ : ∀ r h9, r = .inl (some (.int o.1)) ∧ o.2 = h9 → Q r h9) : tq_C l yX4_addPath cX4_addPath 1 (some .int) d 0 0 [.ref t] h Q := by
  refine tq_body (y := yX4_addPath) false (by decide +kernel) (fun z => by cases z) (Nat.le_of_ble_eq_true rfl) ?_
  show tq_W l mX4_addPath d 0 0 Q 0 [(0, .ref t)] [] h
  refine tq_aload_n (M := mX4_addPath) (pc := 0) dX4_addPath_0 rfl ?_
  refine tq_dup (M := mX4_addPath) (pc := 1) dX4_addPath_1 rfl ?_
  obtain ⟨x1, ex1, hf⟩ := tq_be hf
  refine tq_getI (M := mX4_addPath) (pc := 2) tk_c4 (by decide) dX4_addPath_2 tk_RX4_44 rfl ex1 ?_
  refine tq_iconst (M := mX4_addPath) (pc := 5) dX4_addPath_5 tk_ki_1 ?_
  refine tq_iadd (M := mX4_addPath) (pc := 6) dX4_addPath_6 ?_
  obtain ⟨h2, eh2, hf⟩ := tq_be hf
  refine tq_putv (M := mX4_addPath) (pc := 7) tk_c4 (by decide) dX4_addPath_7 tk_RX4_44 rfl (Or.inl rfl) eh2 (tq_nI _) ?_
  refine tq_aload_n (M := mX4_addPath) (pc := 10) dX4_addPath_10 rfl ?_
  obtain ⟨x3, ex3, hf⟩ := tq_be hf
  refine tq_getI (M := mX4_addPath) (pc := 11) tk_c4 (by decide) dX4_addPath_11 tk_RX4_44 rfl ex3 ?_
  refine tq_iconst (M := mX4_addPath) (pc := 14) dX4_addPath_14 tk_ki_1 ?_
  refine tq_isub (M := mX4_addPath) (pc := 15) dX4_addPath_15 ?_
  refine tq_iret (M := mX4_addPath) (pc := 16) dX4_addPath_16 rfl ?_
  cases (Option.some.inj hf)
  exact hQ _ _ ⟨rfl, rfl⟩
abbrev mX4_addStep : tq_M := (RX4, cX4_addStep, 7, (some .int), false, [])
def f_X4_addStep (t : Nat) (a1 : Int32) (a2 : Int32) (a3 : Int32) (a4 : Int32) (h : tq_H) : Option (Int32 × tq_H) :=
  (tq_gr h t 4 0).bind fun r1 =>
  (tq_is h r1 5).bind fun _ =>
  (f_X5_get r1 a1 h).bind fun v2 =>
  (tq_is h t 4).bind fun _ =>
  (f_X4_stepAt t a1 v2 h).bind fun v4 =>
  (tq_gr h t 4 1).bind fun r6 =>
  (tq_is h r6 5).bind fun _ =>
  (f_X5_set r6 v4 a2 h).bind fun v7 =>
  (tq_gr v7 t 4 2).bind fun r9 =>
  (tq_is v7 r9 5).bind fun _ =>
  (f_X5_set r9 v4 a3 v7).bind fun v10 =>
  (tq_gr v10 t 4 3).bind fun r12 =>
  (tq_is v10 r12 5).bind fun _ =>
  (f_X5_set r12 v4 a4 v10).bind fun v13 =>
  (tq_gr v13 t 4 0).bind fun r15 =>
  (tq_is v13 r15 5).bind fun _ =>
  (f_X5_set r15 a1 (v2 + (1 : Int32)) v13).bind fun v16 =>
  some ((v2 + (1 : Int32)), v16)
set_option maxHeartbeats 4000000 in
set_option maxRecDepth 20000 in
theorem w_X4_addStep {l : Launch} {d : Nat} (hd9 : 1 ≤ d) {t : Nat} {a1 : Int32} {a2 : Int32} {a3 : Int32} {a4 : Int32} {h : tq_H} {o : Int32 × tq_H} {Q : tq_R → tq_H → Prop} (hf : f_X4_addStep t a1 a2 a3 a4 h = some o) (hQ : ∀ r h9, r = .inl (some (.int o.1)) ∧ o.2 = h9 → Q r h9) : tq_C l yX4_addStep cX4_addStep 7 (some .int) d 0 0 [.ref t, .int a1, .int a2, .int a3, .int a4] h Q := by
  refine tq_body (y := yX4_addStep) false (by decide +kernel) (fun z => by cases z) (Nat.le_of_ble_eq_true rfl) ?_
  show tq_W l mX4_addStep d 0 0 Q 0 [(0, .ref t), (1, .int a1), (2, .int a2), (3, .int a3), (4, .int a4)] [] h
  refine tq_aload_n (M := mX4_addStep) (pc := 0) dX4_addStep_0 rfl ?_
  obtain ⟨r1, er1, hf⟩ := tq_be hf
  refine tq_getR (M := mX4_addStep) (pc := 1) tk_c4 (by decide) dX4_addStep_1 tk_RX4_14 rfl er1 ?_
  refine tq_iload_n (M := mX4_addStep) (pc := 4) dX4_addStep_4 rfl ?_
  obtain ⟨⟨⟩, eu3, hf⟩ := tq_be hf
  obtain ⟨fsu3, eu3⟩ := tq_is_s eu3
  obtain ⟨v2, ev2, hf⟩ := tq_be hf
  refine tq_calV (M := mX4_addStep) (pc := 5) (S := []) tk_y_X5_get tk_v_X5_get tk_RX4_48 dX4_addStep_5 [.int a1] rfl (S0 := _) rfl eu3 rfl (Nat.le_of_ble_eq_true rfl) (d1 := d - 1) (b1 := 0) (s1 := 0) (bc' := 0) (bs' := 0) (Q1 := fun r h9 => r = .inl (some (.int v2)) ∧ h = h9) (by omega) rfl rfl (w_X5_get (by omega) ev2 (fun _ _ q => q)) (fun E h9 q => nomatch (show (Sum.inr E : tq_R) = Sum.inl _ from q.1)) (fun r9 h9 q => ?_)
  obtain ⟨q1, rfl⟩ := q
  cases (show (Sum.inl r9 : tq_R) = Sum.inl (some (.int v2)) from q1)
  refine tq_istore (M := mX4_addStep) (pc := 8) dX4_addStep_8 (L2 := [(5, .int v2), (0, .ref t), (1, .int a1), (2, .int a2), (3, .int a3), (4, .int a4)]) (by decide) rfl ?_
  refine tq_aload_n (M := mX4_addStep) (pc := 10) dX4_addStep_10 rfl ?_
  refine tq_iload_n (M := mX4_addStep) (pc := 11) dX4_addStep_11 rfl ?_
  refine tq_iload (M := mX4_addStep) (pc := 12) dX4_addStep_12 rfl ?_
  obtain ⟨⟨⟩, eu5, hf⟩ := tq_be hf
  obtain ⟨fsu5, eu5⟩ := tq_is_s eu5
  obtain ⟨v4, ev4, hf⟩ := tq_be hf
  refine tq_calV (M := mX4_addStep) (pc := 14) (S := []) tk_y_X4_stepAt tk_v_X4_stepAt tk_RX4_52 dX4_addStep_14 [.int a1, .int v2] rfl (S0 := _) rfl eu5 rfl (Nat.le_of_ble_eq_true rfl) (d1 := d - 1) (b1 := 0) (s1 := 0) (bc' := 0) (bs' := 0) (Q1 := fun r h9 => r = .inl (some (.int v4)) ∧ h = h9) (by omega) rfl rfl (w_X4_stepAt (by omega) ev4 (fun _ _ q => q)) (fun E h9 q => nomatch (show (Sum.inr E : tq_R) = Sum.inl _ from q.1)) (fun r9 h9 q => ?_)
  obtain ⟨q1, rfl⟩ := q
  cases (show (Sum.inl r9 : tq_R) = Sum.inl (some (.int v4)) from q1)
  refine tq_istore (M := mX4_addStep) (pc := 17) dX4_addStep_17 (L2 := [(6, .int v4), (5, .int v2), (0, .ref t), (1, .int a1), (2, .int a2), (3, .int a3), (4, .int a4)]) (by decide) rfl ?_
  refine tq_aload_n (M := mX4_addStep) (pc := 19) dX4_addStep_19 rfl ?_
  obtain ⟨r6, er6, hf⟩ := tq_be hf
  refine tq_getR (M := mX4_addStep) (pc := 20) tk_c4 (by decide) dX4_addStep_20 tk_RX4_20 rfl er6 ?_
  refine tq_iload (M := mX4_addStep) (pc := 23) dX4_addStep_23 rfl ?_
  refine tq_iload_n (M := mX4_addStep) (pc := 25) dX4_addStep_25 rfl ?_
  obtain ⟨⟨⟩, eu8, hf⟩ := tq_be hf
  obtain ⟨fsu8, eu8⟩ := tq_is_s eu8
  obtain ⟨v7, ev7, hf⟩ := tq_be hf
  refine tq_calV (M := mX4_addStep) (pc := 26) (S := []) tk_y_X5_set tk_v_X5_set tk_RX4_56 dX4_addStep_26 [.int v4, .int a2] rfl (S0 := _) rfl eu8 rfl (Nat.le_of_ble_eq_true rfl) (d1 := d - 1) (b1 := 0) (s1 := 0) (bc' := 0) (bs' := 0) (Q1 := fun r h9 => r = .inl none ∧ v7 = h9) (by omega) rfl rfl (w_X5_set (by omega) ev7 (fun _ _ q => q)) (fun E h9 q => nomatch (show (Sum.inr E : tq_R) = Sum.inl _ from q.1)) (fun r9 h9 q => ?_)
  obtain ⟨q1, rfl⟩ := q
  cases (show (Sum.inl r9 : tq_R) = Sum.inl (none) from q1)
  refine tq_aload_n (M := mX4_addStep) (pc := 29) dX4_addStep_29 rfl ?_
  obtain ⟨r9, er9, hf⟩ := tq_be hf
  refine tq_getR (M := mX4_addStep) (pc := 30) tk_c4 (by decide) dX4_addStep_30 tk_RX4_23 rfl er9 ?_
  refine tq_iload (M := mX4_addStep) (pc := 33) dX4_addStep_33 rfl ?_
  refine tq_iload_n (M := mX4_addStep) (pc := 35) dX4_addStep_35 rfl ?_
  obtain ⟨⟨⟩, eu11, hf⟩ := tq_be hf
  obtain ⟨fsu11, eu11⟩ := tq_is_s eu11
  obtain ⟨v10, ev10, hf⟩ := tq_be hf
  refine tq_calV (M := mX4_addStep) (pc := 36) (S := []) tk_y_X5_set tk_v_X5_set tk_RX4_56 dX4_addStep_36 [.int v4, .int a3] rfl (S0 := _) rfl eu11 rfl (Nat.le_of_ble_eq_true rfl) (d1 := d - 1) (b1 := 0) (s1 := 0) (bc' := 0) (bs' := 0) (Q1 := fun r h9 => r = .inl none ∧ v10 = h9) (by omega) rfl rfl (w_X5_set (by omega) ev10 (fun _ _ q => q)) (fun E h9 q => nomatch (show (Sum.inr E : tq_R) = Sum.inl _ from q.1)) (fun r9 h9 q => ?_)
  obtain ⟨q1, rfl⟩ := q
  cases (show (Sum.inl r9 : tq_R) = Sum.inl (none) from q1)
  refine tq_aload_n (M := mX4_addStep) (pc := 39) dX4_addStep_39 rfl ?_
  obtain ⟨r12, er12, hf⟩ := tq_be hf
  refine tq_getR (M := mX4_addStep) (pc := 40) tk_c4 (by decide) dX4_addStep_40 tk_RX4_26 rfl er12 ?_
  refine tq_iload (M := mX4_addStep) (pc := 43) dX4_addStep_43 rfl ?_
  refine tq_iload (M := mX4_addStep) (pc := 45) dX4_addStep_45 rfl ?_
  obtain ⟨⟨⟩, eu14, hf⟩ := tq_be hf
  obtain ⟨fsu14, eu14⟩ := tq_is_s eu14
  obtain ⟨v13, ev13, hf⟩ := tq_be hf
  refine tq_calV (M := mX4_addStep) (pc := 47) (S := []) tk_y_X5_set tk_v_X5_set tk_RX4_56 dX4_addStep_47 [.int v4, .int a4] rfl (S0 := _) rfl eu14 rfl (Nat.le_of_ble_eq_true rfl) (d1 := d - 1) (b1 := 0) (s1 := 0) (bc' := 0) (bs' := 0) (Q1 := fun r h9 => r = .inl none ∧ v13 = h9) (by omega) rfl rfl (w_X5_set (by omega) ev13 (fun _ _ q => q)) (fun E h9 q => nomatch (show (Sum.inr E : tq_R) = Sum.inl _ from q.1)) (fun r9 h9 q => ?_)
  obtain ⟨q1, rfl⟩ := q
  cases (show (Sum.inl r9 : tq_R) = Sum.inl (none) from q1)
  refine tq_aload_n (M := mX4_addStep) (pc := 50) dX4_addStep_50 rfl ?_
  obtain ⟨r15, er15, hf⟩ := tq_be hf
  refine tq_getR (M := mX4_addStep) (pc := 51) tk_c4 (by decide) dX4_addStep_51 tk_RX4_14 rfl er15 ?_
  refine tq_iload_n (M := mX4_addStep) (pc := 54) dX4_addStep_54 rfl ?_
  refine tq_iload (M := mX4_addStep) (pc := 55) dX4_addStep_55 rfl ?_
  refine tq_iconst (M := mX4_addStep) (pc := 57) dX4_addStep_57 tk_ki_1 ?_
  refine tq_iadd (M := mX4_addStep) (pc := 58) dX4_addStep_58 ?_
  obtain ⟨⟨⟩, eu17, hf⟩ := tq_be hf
  obtain ⟨fsu17, eu17⟩ := tq_is_s eu17
  obtain ⟨v16, ev16, hf⟩ := tq_be hf
  refine tq_calV (M := mX4_addStep) (pc := 59) (S := []) tk_y_X5_set tk_v_X5_set tk_RX4_56 dX4_addStep_59 [.int a1, .int ((v2 + (1 : Int32)))] rfl (S0 := _) rfl eu17 rfl (Nat.le_of_ble_eq_true rfl) (d1 := d - 1) (b1 := 0) (s1 := 0) (bc' := 0) (bs' := 0) (Q1 := fun r h9 => r = .inl none ∧ v16 = h9) (by omega) rfl rfl (w_X5_set (by omega) ev16 (fun _ _ q => q)) (fun E h9 q => nomatch (show (Sum.inr E : tq_R) = Sum.inl _ from q.1)) (fun r9 h9 q => ?_)
  obtain ⟨q1, rfl⟩ := q
  cases (show (Sum.inl r9 : tq_R) = Sum.inl (none) from q1)
  refine tq_iload (M := mX4_addStep) (pc := 62) dX4_addStep_62 rfl ?_
  refine tq_iconst (M := mX4_addStep) (pc := 64) dX4_addStep_64 tk_ki_1 ?_
  refine tq_iadd (M := mX4_addStep) (pc := 65) dX4_addStep_65 ?_
  refine tq_iret (M := mX4_addStep) (pc := 66) dX4_addStep_66 rfl ?_
  cases (Option.some.inj hf)
  exact hQ _ _ ⟨rfl, rfl⟩
abbrev mX4_addCondition : tq_M := (RX4, cX4_addCondition, 9, (some .int), false, [])
def f_X4_addCondition (t : Nat) (a1 : Int32) (a2 : Int32) (a3 : Int32) (a4 : Int32) (a5 : Int32) (h : tq_H) : Option (Int32 × tq_H) :=
  (tq_gr h t 4 0).bind fun r1 =>
  (tq_is h r1 5).bind fun _ =>
  (f_X5_get r1 a1 h).bind fun v2 =>
  (tq_is h t 4).bind fun _ =>
  (f_X4_stepAt t a1 (v2 - (1 : Int32)) h).bind fun v4 =>
  (tq_gr h t 4 4).bind fun r6 =>
  (tq_is h r6 5).bind fun _ =>
  (f_X5_get r6 v4 h).bind fun v7 =>
  (tq_is h t 4).bind fun _ =>
  (f_X4_conditionAt t v4 v7 h).bind fun v9 =>
  (tq_gr h t 4 5).bind fun r11 =>
  (tq_is h r11 5).bind fun _ =>
  (f_X5_set r11 v9 a2 h).bind fun v12 =>
  (tq_gr v12 t 4 6).bind fun r14 =>
  (tq_is v12 r14 5).bind fun _ =>
  (f_X5_set r14 v9 a3 v12).bind fun v15 =>
  (tq_gr v15 t 4 7).bind fun r17 =>
  (tq_is v15 r17 5).bind fun _ =>
  (f_X5_set r17 v9 a4 v15).bind fun v18 =>
  (tq_gr v18 t 4 8).bind fun r20 =>
  (tq_is v18 r20 5).bind fun _ =>
  (f_X5_set r20 v9 a5 v18).bind fun v21 =>
  (tq_gr v21 t 4 4).bind fun r23 =>
  (tq_is v21 r23 5).bind fun _ =>
  (f_X5_set r23 v4 (v7 + (1 : Int32)) v21).bind fun v24 =>
  some ((v7 + (1 : Int32)), v24)
set_option maxHeartbeats 4000000 in
set_option maxRecDepth 20000 in
theorem w_X4_addCondition {l : Launch} {d : Nat} (hd9 : 1 ≤ d) {t : Nat} {a1 : Int32} {a2 : Int32} {a3 : Int32} {a4 : Int32} {a5 : Int32} {h : tq_H} {o : Int32 × tq_H} {Q : tq_R → tq_H → Prop} (hf : f_X4_addCondition t a1 a2 a3 a4 a5 h = some o) (hQ : ∀ r h9, r = .inl (some (.int o.1)) ∧ o.2 = h9 → Q r h9) : tq_C l yX4_addCondition cX4_addCondition 9 (some .int) d 0 0 [.ref t, .int a1, .int a2, .int a3, .int a4, .int a5] h Q := by
  refine tq_body (y := yX4_addCondition) false (by decide +kernel) (fun z => by cases z) (Nat.le_of_ble_eq_true rfl) ?_
  show tq_W l mX4_addCondition d 0 0 Q 0 [(0, .ref t), (1, .int a1), (2, .int a2), (3, .int a3), (4, .int a4), (5, .int a5)] [] h
  refine tq_aload_n (M := mX4_addCondition) (pc := 0) dX4_addCondition_0 rfl ?_
  refine tq_iload_n (M := mX4_addCondition) (pc := 1) dX4_addCondition_1 rfl ?_
  refine tq_aload_n (M := mX4_addCondition) (pc := 2) dX4_addCondition_2 rfl ?_
  obtain ⟨r1, er1, hf⟩ := tq_be hf
  refine tq_getR (M := mX4_addCondition) (pc := 3) tk_c4 (by decide) dX4_addCondition_3 tk_RX4_14 rfl er1 ?_
  refine tq_iload_n (M := mX4_addCondition) (pc := 6) dX4_addCondition_6 rfl ?_
  obtain ⟨⟨⟩, eu3, hf⟩ := tq_be hf
  obtain ⟨fsu3, eu3⟩ := tq_is_s eu3
  obtain ⟨v2, ev2, hf⟩ := tq_be hf
  refine tq_calV (M := mX4_addCondition) (pc := 7) (S := [.int a1, .ref t]) tk_y_X5_get tk_v_X5_get tk_RX4_48 dX4_addCondition_7 [.int a1] rfl (S0 := _) rfl eu3 rfl (Nat.le_of_ble_eq_true rfl) (d1 := d - 1) (b1 := 0) (s1 := 0) (bc' := 0) (bs' := 0) (Q1 := fun r h9 => r = .inl (some (.int v2)) ∧ h = h9) (by omega) rfl rfl (w_X5_get (by omega) ev2 (fun _ _ q => q)) (fun E h9 q => nomatch (show (Sum.inr E : tq_R) = Sum.inl _ from q.1)) (fun r9 h9 q => ?_)
  obtain ⟨q1, rfl⟩ := q
  cases (show (Sum.inl r9 : tq_R) = Sum.inl (some (.int v2)) from q1)
  refine tq_iconst (M := mX4_addCondition) (pc := 10) dX4_addCondition_10 tk_ki_1 ?_
  refine tq_isub (M := mX4_addCondition) (pc := 11) dX4_addCondition_11 ?_
  obtain ⟨⟨⟩, eu5, hf⟩ := tq_be hf
  obtain ⟨fsu5, eu5⟩ := tq_is_s eu5
  obtain ⟨v4, ev4, hf⟩ := tq_be hf
  refine tq_calV (M := mX4_addCondition) (pc := 12) (S := []) tk_y_X4_stepAt tk_v_X4_stepAt tk_RX4_52 dX4_addCondition_12 [.int a1, .int ((v2 - (1 : Int32)))] rfl (S0 := _) rfl eu5 rfl (Nat.le_of_ble_eq_true rfl) (d1 := d - 1) (b1 := 0) (s1 := 0) (bc' := 0) (bs' := 0) (Q1 := fun r h9 => r = .inl (some (.int v4)) ∧ h = h9) (by omega) rfl rfl (w_X4_stepAt (by omega) ev4 (fun _ _ q => q)) (fun E h9 q => nomatch (show (Sum.inr E : tq_R) = Sum.inl _ from q.1)) (fun r9 h9 q => ?_)
  obtain ⟨q1, rfl⟩ := q
  cases (show (Sum.inl r9 : tq_R) = Sum.inl (some (.int v4)) from q1)
  refine tq_istore (M := mX4_addCondition) (pc := 15) dX4_addCondition_15 (L2 := [(6, .int v4), (0, .ref t), (1, .int a1), (2, .int a2), (3, .int a3), (4, .int a4), (5, .int a5)]) (by decide) rfl ?_
  refine tq_aload_n (M := mX4_addCondition) (pc := 17) dX4_addCondition_17 rfl ?_
  obtain ⟨r6, er6, hf⟩ := tq_be hf
  refine tq_getR (M := mX4_addCondition) (pc := 18) tk_c4 (by decide) dX4_addCondition_18 tk_RX4_29 rfl er6 ?_
  refine tq_iload (M := mX4_addCondition) (pc := 21) dX4_addCondition_21 rfl ?_
  obtain ⟨⟨⟩, eu8, hf⟩ := tq_be hf
  obtain ⟨fsu8, eu8⟩ := tq_is_s eu8
  obtain ⟨v7, ev7, hf⟩ := tq_be hf
  refine tq_calV (M := mX4_addCondition) (pc := 23) (S := []) tk_y_X5_get tk_v_X5_get tk_RX4_48 dX4_addCondition_23 [.int v4] rfl (S0 := _) rfl eu8 rfl (Nat.le_of_ble_eq_true rfl) (d1 := d - 1) (b1 := 0) (s1 := 0) (bc' := 0) (bs' := 0) (Q1 := fun r h9 => r = .inl (some (.int v7)) ∧ h = h9) (by omega) rfl rfl (w_X5_get (by omega) ev7 (fun _ _ q => q)) (fun E h9 q => nomatch (show (Sum.inr E : tq_R) = Sum.inl _ from q.1)) (fun r9 h9 q => ?_)
  obtain ⟨q1, rfl⟩ := q
  cases (show (Sum.inl r9 : tq_R) = Sum.inl (some (.int v7)) from q1)
  refine tq_istore (M := mX4_addCondition) (pc := 26) dX4_addCondition_26 (L2 := [(7, .int v7), (6, .int v4), (0, .ref t), (1, .int a1), (2, .int a2), (3, .int a3), (4, .int a4), (5, .int a5)]) (by decide) rfl ?_
  refine tq_aload_n (M := mX4_addCondition) (pc := 28) dX4_addCondition_28 rfl ?_
  refine tq_iload (M := mX4_addCondition) (pc := 29) dX4_addCondition_29 rfl ?_
  refine tq_iload (M := mX4_addCondition) (pc := 31) dX4_addCondition_31 rfl ?_
  obtain ⟨⟨⟩, eu10, hf⟩ := tq_be hf
  obtain ⟨fsu10, eu10⟩ := tq_is_s eu10
  obtain ⟨v9, ev9, hf⟩ := tq_be hf
  refine tq_calV (M := mX4_addCondition) (pc := 33) (S := []) tk_y_X4_conditionAt tk_v_X4_conditionAt tk_RX4_59 dX4_addCondition_33 [.int v4, .int v7] rfl (S0 := _) rfl eu10 rfl (Nat.le_of_ble_eq_true rfl) (d1 := d - 1) (b1 := 0) (s1 := 0) (bc' := 0) (bs' := 0) (Q1 := fun r h9 => r = .inl (some (.int v9)) ∧ h = h9) (by omega) rfl rfl (w_X4_conditionAt (by omega) ev9 (fun _ _ q => q)) (fun E h9 q => nomatch (show (Sum.inr E : tq_R) = Sum.inl _ from q.1)) (fun r9 h9 q => ?_)
  obtain ⟨q1, rfl⟩ := q
  cases (show (Sum.inl r9 : tq_R) = Sum.inl (some (.int v9)) from q1)
  refine tq_istore (M := mX4_addCondition) (pc := 36) dX4_addCondition_36 (L2 := [(8, .int v9), (7, .int v7), (6, .int v4), (0, .ref t), (1, .int a1), (2, .int a2), (3, .int a3), (4, .int a4), (5, .int a5)]) (by decide) rfl ?_
  refine tq_aload_n (M := mX4_addCondition) (pc := 38) dX4_addCondition_38 rfl ?_
  obtain ⟨r11, er11, hf⟩ := tq_be hf
  refine tq_getR (M := mX4_addCondition) (pc := 39) tk_c4 (by decide) dX4_addCondition_39 tk_RX4_32 rfl er11 ?_
  refine tq_iload (M := mX4_addCondition) (pc := 42) dX4_addCondition_42 rfl ?_
  refine tq_iload_n (M := mX4_addCondition) (pc := 44) dX4_addCondition_44 rfl ?_
  obtain ⟨⟨⟩, eu13, hf⟩ := tq_be hf
  obtain ⟨fsu13, eu13⟩ := tq_is_s eu13
  obtain ⟨v12, ev12, hf⟩ := tq_be hf
  refine tq_calV (M := mX4_addCondition) (pc := 45) (S := []) tk_y_X5_set tk_v_X5_set tk_RX4_56 dX4_addCondition_45 [.int v9, .int a2] rfl (S0 := _) rfl eu13 rfl (Nat.le_of_ble_eq_true rfl) (d1 := d - 1) (b1 := 0) (s1 := 0) (bc' := 0) (bs' := 0) (Q1 := fun r h9 => r = .inl none ∧ v12 = h9) (by omega) rfl rfl (w_X5_set (by omega) ev12 (fun _ _ q => q)) (fun E h9 q => nomatch (show (Sum.inr E : tq_R) = Sum.inl _ from q.1)) (fun r9 h9 q => ?_)
  obtain ⟨q1, rfl⟩ := q
  cases (show (Sum.inl r9 : tq_R) = Sum.inl (none) from q1)
  refine tq_aload_n (M := mX4_addCondition) (pc := 48) dX4_addCondition_48 rfl ?_
  obtain ⟨r14, er14, hf⟩ := tq_be hf
  refine tq_getR (M := mX4_addCondition) (pc := 49) tk_c4 (by decide) dX4_addCondition_49 tk_RX4_35 rfl er14 ?_
  refine tq_iload (M := mX4_addCondition) (pc := 52) dX4_addCondition_52 rfl ?_
  refine tq_iload_n (M := mX4_addCondition) (pc := 54) dX4_addCondition_54 rfl ?_
  obtain ⟨⟨⟩, eu16, hf⟩ := tq_be hf
  obtain ⟨fsu16, eu16⟩ := tq_is_s eu16
  obtain ⟨v15, ev15, hf⟩ := tq_be hf
  refine tq_calV (M := mX4_addCondition) (pc := 55) (S := []) tk_y_X5_set tk_v_X5_set tk_RX4_56 dX4_addCondition_55 [.int v9, .int a3] rfl (S0 := _) rfl eu16 rfl (Nat.le_of_ble_eq_true rfl) (d1 := d - 1) (b1 := 0) (s1 := 0) (bc' := 0) (bs' := 0) (Q1 := fun r h9 => r = .inl none ∧ v15 = h9) (by omega) rfl rfl (w_X5_set (by omega) ev15 (fun _ _ q => q)) (fun E h9 q => nomatch (show (Sum.inr E : tq_R) = Sum.inl _ from q.1)) (fun r9 h9 q => ?_)
  obtain ⟨q1, rfl⟩ := q
  cases (show (Sum.inl r9 : tq_R) = Sum.inl (none) from q1)
  refine tq_aload_n (M := mX4_addCondition) (pc := 58) dX4_addCondition_58 rfl ?_
  obtain ⟨r17, er17, hf⟩ := tq_be hf
  refine tq_getR (M := mX4_addCondition) (pc := 59) tk_c4 (by decide) dX4_addCondition_59 tk_RX4_38 rfl er17 ?_
  refine tq_iload (M := mX4_addCondition) (pc := 62) dX4_addCondition_62 rfl ?_
  refine tq_iload (M := mX4_addCondition) (pc := 64) dX4_addCondition_64 rfl ?_
  obtain ⟨⟨⟩, eu19, hf⟩ := tq_be hf
  obtain ⟨fsu19, eu19⟩ := tq_is_s eu19
  obtain ⟨v18, ev18, hf⟩ := tq_be hf
  refine tq_calV (M := mX4_addCondition) (pc := 66) (S := []) tk_y_X5_set tk_v_X5_set tk_RX4_56 dX4_addCondition_66 [.int v9, .int a4] rfl (S0 := _) rfl eu19 rfl (Nat.le_of_ble_eq_true rfl) (d1 := d - 1) (b1 := 0) (s1 := 0) (bc' := 0) (bs' := 0) (Q1 := fun r h9 => r = .inl none ∧ v18 = h9) (by omega) rfl rfl (w_X5_set (by omega) ev18 (fun _ _ q => q)) (fun E h9 q => nomatch (show (Sum.inr E : tq_R) = Sum.inl _ from q.1)) (fun r9 h9 q => ?_)
  obtain ⟨q1, rfl⟩ := q
  cases (show (Sum.inl r9 : tq_R) = Sum.inl (none) from q1)
  refine tq_aload_n (M := mX4_addCondition) (pc := 69) dX4_addCondition_69 rfl ?_
  obtain ⟨r20, er20, hf⟩ := tq_be hf
  refine tq_getR (M := mX4_addCondition) (pc := 70) tk_c4 (by decide) dX4_addCondition_70 tk_RX4_41 rfl er20 ?_
  refine tq_iload (M := mX4_addCondition) (pc := 73) dX4_addCondition_73 rfl ?_
  refine tq_iload (M := mX4_addCondition) (pc := 75) dX4_addCondition_75 rfl ?_
  obtain ⟨⟨⟩, eu22, hf⟩ := tq_be hf
  obtain ⟨fsu22, eu22⟩ := tq_is_s eu22
  obtain ⟨v21, ev21, hf⟩ := tq_be hf
  refine tq_calV (M := mX4_addCondition) (pc := 77) (S := []) tk_y_X5_set tk_v_X5_set tk_RX4_56 dX4_addCondition_77 [.int v9, .int a5] rfl (S0 := _) rfl eu22 rfl (Nat.le_of_ble_eq_true rfl) (d1 := d - 1) (b1 := 0) (s1 := 0) (bc' := 0) (bs' := 0) (Q1 := fun r h9 => r = .inl none ∧ v21 = h9) (by omega) rfl rfl (w_X5_set (by omega) ev21 (fun _ _ q => q)) (fun E h9 q => nomatch (show (Sum.inr E : tq_R) = Sum.inl _ from q.1)) (fun r9 h9 q => ?_)
  obtain ⟨q1, rfl⟩ := q
  cases (show (Sum.inl r9 : tq_R) = Sum.inl (none) from q1)
  refine tq_aload_n (M := mX4_addCondition) (pc := 80) dX4_addCondition_80 rfl ?_
  obtain ⟨r23, er23, hf⟩ := tq_be hf
  refine tq_getR (M := mX4_addCondition) (pc := 81) tk_c4 (by decide) dX4_addCondition_81 tk_RX4_29 rfl er23 ?_
  refine tq_iload (M := mX4_addCondition) (pc := 84) dX4_addCondition_84 rfl ?_
  refine tq_iload (M := mX4_addCondition) (pc := 86) dX4_addCondition_86 rfl ?_
  refine tq_iconst (M := mX4_addCondition) (pc := 88) dX4_addCondition_88 tk_ki_1 ?_
  refine tq_iadd (M := mX4_addCondition) (pc := 89) dX4_addCondition_89 ?_
  obtain ⟨⟨⟩, eu25, hf⟩ := tq_be hf
  obtain ⟨fsu25, eu25⟩ := tq_is_s eu25
  obtain ⟨v24, ev24, hf⟩ := tq_be hf
  refine tq_calV (M := mX4_addCondition) (pc := 90) (S := []) tk_y_X5_set tk_v_X5_set tk_RX4_56 dX4_addCondition_90 [.int v4, .int ((v7 + (1 : Int32)))] rfl (S0 := _) rfl eu25 rfl (Nat.le_of_ble_eq_true rfl) (d1 := d - 1) (b1 := 0) (s1 := 0) (bc' := 0) (bs' := 0) (Q1 := fun r h9 => r = .inl none ∧ v24 = h9) (by omega) rfl rfl (w_X5_set (by omega) ev24 (fun _ _ q => q)) (fun E h9 q => nomatch (show (Sum.inr E : tq_R) = Sum.inl _ from q.1)) (fun r9 h9 q => ?_)
  obtain ⟨q1, rfl⟩ := q
  cases (show (Sum.inl r9 : tq_R) = Sum.inl (none) from q1)
  refine tq_iload (M := mX4_addCondition) (pc := 93) dX4_addCondition_93 rfl ?_
  refine tq_iconst (M := mX4_addCondition) (pc := 95) dX4_addCondition_95 tk_ki_1 ?_
  refine tq_iadd (M := mX4_addCondition) (pc := 96) dX4_addCondition_96 ?_
  refine tq_iret (M := mX4_addCondition) (pc := 97) dX4_addCondition_97 rfl ?_
  cases (Option.some.inj hf)
  exact hQ _ _ ⟨rfl, rfl⟩
abbrev mX4_conditionsOfLast : tq_M := (RX4, cX4_conditionsOfLast, 2, (some .int), false, [])
def f_X4_conditionsOfLast (t : Nat) (a1 : Int32) (h : tq_H) : Option (Int32) :=
  (tq_gr h t 4 4).bind fun r1 =>
  (tq_gr h t 4 0).bind fun r2 =>
  (tq_is h r2 5).bind fun _ =>
  (f_X5_get r2 a1 h).bind fun v3 =>
  (tq_is h t 4).bind fun _ =>
  (f_X4_stepAt t a1 (v3 - (1 : Int32)) h).bind fun v5 =>
  (tq_is h r1 5).bind fun _ =>
  (f_X5_get r1 v5 h).bind fun v7 =>
  some v7
set_option maxHeartbeats 4000000 in
set_option maxRecDepth 20000 in
theorem w_X4_conditionsOfLast {l : Launch} {d : Nat} (hd9 : 1 ≤ d) {t : Nat} {a1 : Int32} {h : tq_H} {o : Int32} {Q : tq_R → tq_H → Prop} (hf : f_X4_conditionsOfLast t a1 h = some o) (hQ : ∀ r h9, r = .inl (some (.int o)) ∧ h = h9 → Q r h9) : tq_C l yX4_conditionsOfLast cX4_conditionsOfLast 2 (some .int) d 0 0 [.ref t, .int a1] h Q := by
  refine tq_body (y := yX4_conditionsOfLast) false (by decide +kernel) (fun z => by cases z) (Nat.le_of_ble_eq_true rfl) ?_
  show tq_W l mX4_conditionsOfLast d 0 0 Q 0 [(0, .ref t), (1, .int a1)] [] h
  refine tq_aload_n (M := mX4_conditionsOfLast) (pc := 0) dX4_conditionsOfLast_0 rfl ?_
  obtain ⟨r1, er1, hf⟩ := tq_be hf
  refine tq_getR (M := mX4_conditionsOfLast) (pc := 1) tk_c4 (by decide) dX4_conditionsOfLast_1 tk_RX4_29 rfl er1 ?_
  refine tq_aload_n (M := mX4_conditionsOfLast) (pc := 4) dX4_conditionsOfLast_4 rfl ?_
  refine tq_iload_n (M := mX4_conditionsOfLast) (pc := 5) dX4_conditionsOfLast_5 rfl ?_
  refine tq_aload_n (M := mX4_conditionsOfLast) (pc := 6) dX4_conditionsOfLast_6 rfl ?_
  obtain ⟨r2, er2, hf⟩ := tq_be hf
  refine tq_getR (M := mX4_conditionsOfLast) (pc := 7) tk_c4 (by decide) dX4_conditionsOfLast_7 tk_RX4_14 rfl er2 ?_
  refine tq_iload_n (M := mX4_conditionsOfLast) (pc := 10) dX4_conditionsOfLast_10 rfl ?_
  obtain ⟨⟨⟩, eu4, hf⟩ := tq_be hf
  obtain ⟨fsu4, eu4⟩ := tq_is_s eu4
  obtain ⟨v3, ev3, hf⟩ := tq_be hf
  refine tq_calV (M := mX4_conditionsOfLast) (pc := 11) (S := [.int a1, .ref t, .ref r1]) tk_y_X5_get tk_v_X5_get tk_RX4_48 dX4_conditionsOfLast_11 [.int a1] rfl (S0 := _) rfl eu4 rfl (Nat.le_of_ble_eq_true rfl) (d1 := d - 1) (b1 := 0) (s1 := 0) (bc' := 0) (bs' := 0) (Q1 := fun r h9 => r = .inl (some (.int v3)) ∧ h = h9) (by omega) rfl rfl (w_X5_get (by omega) ev3 (fun _ _ q => q)) (fun E h9 q => nomatch (show (Sum.inr E : tq_R) = Sum.inl _ from q.1)) (fun r9 h9 q => ?_)
  obtain ⟨q1, rfl⟩ := q
  cases (show (Sum.inl r9 : tq_R) = Sum.inl (some (.int v3)) from q1)
  refine tq_iconst (M := mX4_conditionsOfLast) (pc := 14) dX4_conditionsOfLast_14 tk_ki_1 ?_
  refine tq_isub (M := mX4_conditionsOfLast) (pc := 15) dX4_conditionsOfLast_15 ?_
  obtain ⟨⟨⟩, eu6, hf⟩ := tq_be hf
  obtain ⟨fsu6, eu6⟩ := tq_is_s eu6
  obtain ⟨v5, ev5, hf⟩ := tq_be hf
  refine tq_calV (M := mX4_conditionsOfLast) (pc := 16) (S := [.ref r1]) tk_y_X4_stepAt tk_v_X4_stepAt tk_RX4_52 dX4_conditionsOfLast_16 [.int a1, .int ((v3 - (1 : Int32)))] rfl (S0 := _) rfl eu6 rfl (Nat.le_of_ble_eq_true rfl) (d1 := d - 1) (b1 := 0) (s1 := 0) (bc' := 0) (bs' := 0) (Q1 := fun r h9 => r = .inl (some (.int v5)) ∧ h = h9) (by omega) rfl rfl (w_X4_stepAt (by omega) ev5 (fun _ _ q => q)) (fun E h9 q => nomatch (show (Sum.inr E : tq_R) = Sum.inl _ from q.1)) (fun r9 h9 q => ?_)
  obtain ⟨q1, rfl⟩ := q
  cases (show (Sum.inl r9 : tq_R) = Sum.inl (some (.int v5)) from q1)
  obtain ⟨⟨⟩, eu8, hf⟩ := tq_be hf
  obtain ⟨fsu8, eu8⟩ := tq_is_s eu8
  obtain ⟨v7, ev7, hf⟩ := tq_be hf
  refine tq_calV (M := mX4_conditionsOfLast) (pc := 19) (S := []) tk_y_X5_get tk_v_X5_get tk_RX4_48 dX4_conditionsOfLast_19 [.int v5] rfl (S0 := _) rfl eu8 rfl (Nat.le_of_ble_eq_true rfl) (d1 := d - 1) (b1 := 0) (s1 := 0) (bc' := 0) (bs' := 0) (Q1 := fun r h9 => r = .inl (some (.int v7)) ∧ h = h9) (by omega) rfl rfl (w_X5_get (by omega) ev7 (fun _ _ q => q)) (fun E h9 q => nomatch (show (Sum.inr E : tq_R) = Sum.inl _ from q.1)) (fun r9 h9 q => ?_)
  obtain ⟨q1, rfl⟩ := q
  cases (show (Sum.inl r9 : tq_R) = Sum.inl (some (.int v7)) from q1)
  refine tq_iret (M := mX4_conditionsOfLast) (pc := 22) dX4_conditionsOfLast_22 rfl ?_
  cases (Option.some.inj hf)
  exact hQ _ _ ⟨rfl, rfl⟩
abbrev mX4_nameBelow : tq_M := (RX4, cX4_nameBelow, 4, (some .int), false, [])
def f_X4_nameBelow (t : Nat) (a1 : Int32) (h : tq_H) : Option (Int32) :=
  (tq_is h t 4).bind fun _ =>
  (f_X4_stepAt t a1 (0 : Int32) h).bind fun v1 =>
  (tq_gr h t 4 0).bind fun r3 =>
  (tq_is h r3 5).bind fun _ =>
  (f_X5_get r3 a1 h).bind fun v4 =>
  (if v4 ≤ 0 then
    some (0 : Int32)
  else
    (tq_gr h t 4 1).bind fun r6 =>
    (tq_is h r6 5).bind fun _ =>
    (f_X5_get r6 v1 h).bind fun v7 =>
    if v7 = (3 : Int32) then
      (tq_gr h t 4 2).bind fun r9 =>
      (tq_is h r9 5).bind fun _ =>
      (f_X5_get r9 v1 h).bind fun v10 =>
      if v10 ≥ (8 : Int32) then
        some (0 : Int32)
      else
        some (1 : Int32)
    else
      some (0 : Int32)).bind fun p12 =>
  (if p12 = 0 then
    some (-1 : Int32)
  else
    (tq_gr h t 4 2).bind fun r13 =>
    (tq_is h r13 5).bind fun _ =>
    (f_X5_get r13 v1 h).bind fun v14 =>
    some v14).bind fun p16 =>
  some p16
set_option maxHeartbeats 4000000 in
set_option maxRecDepth 20000 in
theorem w_X4_nameBelow {l : Launch} {d : Nat} (hd9 : 1 ≤ d) {t : Nat} {a1 : Int32} {h : tq_H} {o : Int32} {Q : tq_R → tq_H → Prop} (hf : f_X4_nameBelow t a1 h = some o) (hQ : ∀ r h9, r = .inl (some (.int o)) ∧ h = h9 → Q r h9) : tq_C l yX4_nameBelow cX4_nameBelow 4 (some .int) d 0 0 [.ref t, .int a1] h Q := by
  refine tq_body (y := yX4_nameBelow) false (by decide +kernel) (fun z => by cases z) (Nat.le_of_ble_eq_true rfl) ?_
  show tq_W l mX4_nameBelow d 0 0 Q 0 [(0, .ref t), (1, .int a1)] [] h
  refine tq_aload_n (M := mX4_nameBelow) (pc := 0) dX4_nameBelow_0 rfl ?_
  refine tq_iload_n (M := mX4_nameBelow) (pc := 1) dX4_nameBelow_1 rfl ?_
  refine tq_iconst (M := mX4_nameBelow) (pc := 2) dX4_nameBelow_2 tk_ki_0 ?_
  obtain ⟨⟨⟩, eu2, hf⟩ := tq_be hf
  obtain ⟨fsu2, eu2⟩ := tq_is_s eu2
  obtain ⟨v1, ev1, hf⟩ := tq_be hf
  refine tq_calV (M := mX4_nameBelow) (pc := 3) (S := []) tk_y_X4_stepAt tk_v_X4_stepAt tk_RX4_52 dX4_nameBelow_3 [.int a1, .int (0 : Int32)] rfl (S0 := _) rfl eu2 rfl (Nat.le_of_ble_eq_true rfl) (d1 := d - 1) (b1 := 0) (s1 := 0) (bc' := 0) (bs' := 0) (Q1 := fun r h9 => r = .inl (some (.int v1)) ∧ h = h9) (by omega) rfl rfl (w_X4_stepAt (by omega) ev1 (fun _ _ q => q)) (fun E h9 q => nomatch (show (Sum.inr E : tq_R) = Sum.inl _ from q.1)) (fun r9 h9 q => ?_)
  obtain ⟨q1, rfl⟩ := q
  cases (show (Sum.inl r9 : tq_R) = Sum.inl (some (.int v1)) from q1)
  refine tq_istore_n (M := mX4_nameBelow) (pc := 6) rfl dX4_nameBelow_6 (L2 := [(2, .int v1), (0, .ref t), (1, .int a1)]) (by decide) rfl ?_
  refine tq_aload_n (M := mX4_nameBelow) (pc := 7) dX4_nameBelow_7 rfl ?_
  obtain ⟨r3, er3, hf⟩ := tq_be hf
  refine tq_getR (M := mX4_nameBelow) (pc := 8) tk_c4 (by decide) dX4_nameBelow_8 tk_RX4_14 rfl er3 ?_
  refine tq_iload_n (M := mX4_nameBelow) (pc := 11) dX4_nameBelow_11 rfl ?_
  obtain ⟨⟨⟩, eu5, hf⟩ := tq_be hf
  obtain ⟨fsu5, eu5⟩ := tq_is_s eu5
  obtain ⟨v4, ev4, hf⟩ := tq_be hf
  refine tq_calV (M := mX4_nameBelow) (pc := 12) (S := []) tk_y_X5_get tk_v_X5_get tk_RX4_48 dX4_nameBelow_12 [.int a1] rfl (S0 := _) rfl eu5 rfl (Nat.le_of_ble_eq_true rfl) (d1 := d - 1) (b1 := 0) (s1 := 0) (bc' := 0) (bs' := 0) (Q1 := fun r h9 => r = .inl (some (.int v4)) ∧ h = h9) (by omega) rfl rfl (w_X5_get (by omega) ev4 (fun _ _ q => q)) (fun E h9 q => nomatch (show (Sum.inr E : tq_R) = Sum.inl _ from q.1)) (fun r9 h9 q => ?_)
  obtain ⟨q1, rfl⟩ := q
  cases (show (Sum.inl r9 : tq_R) = Sum.inl (some (.int v4)) from q1)
  obtain ⟨p12, ep12, hf⟩ := tq_be hf
  have HJ15 : tq_W l mX4_nameBelow d 0 0 Q 48 [(0, .ref t), (2, .int v1)] [.int p12] h := by
    refine tq_istore_n (M := mX4_nameBelow) (pc := 48) rfl dX4_nameBelow_48 (L2 := [(3, .int p12), (0, .ref t), (2, .int v1)]) (by decide) rfl ?_
    refine tq_iload_n (M := mX4_nameBelow) (pc := 49) dX4_nameBelow_49 rfl ?_
    obtain ⟨p16, ep16, hf⟩ := tq_be hf
    have HJ50 : tq_W l mX4_nameBelow d 0 0 Q 65 [] [.int p16] h := by
      refine tq_iret (M := mX4_nameBelow) (pc := 65) dX4_nameBelow_65 rfl ?_
      cases (Option.some.inj hf)
      exact hQ _ _ ⟨rfl, rfl⟩
    refine tq_if_eq (M := mX4_nameBelow) (pc := 50) (tgt := 64) dX4_nameBelow_50 (by decide) (fun cc => ?_) (fun cc => ?_)
    · have hf := tq_ifp ep16 cc
      refine tq_iconst (M := mX4_nameBelow) (pc := 64) dX4_nameBelow_64 tk_ki_m1 ?_
      refine tq_pick (L2 := []) [] rfl ?_
      cases (Option.some.inj hf)
      exact HJ50
    · have hf := tq_ifn ep16 cc
      refine tq_aload_n (M := mX4_nameBelow) (pc := 53) dX4_nameBelow_53 rfl ?_
      obtain ⟨r13, er13, hf⟩ := tq_be hf
      refine tq_getR (M := mX4_nameBelow) (pc := 54) tk_c4 (by decide) dX4_nameBelow_54 tk_RX4_23 rfl er13 ?_
      refine tq_iload_n (M := mX4_nameBelow) (pc := 57) dX4_nameBelow_57 rfl ?_
      obtain ⟨⟨⟩, eu15, hf⟩ := tq_be hf
      obtain ⟨fsu15, eu15⟩ := tq_is_s eu15
      obtain ⟨v14, ev14, hf⟩ := tq_be hf
      refine tq_calV (M := mX4_nameBelow) (pc := 58) (S := []) tk_y_X5_get tk_v_X5_get tk_RX4_48 dX4_nameBelow_58 [.int v1] rfl (S0 := _) rfl eu15 rfl (Nat.le_of_ble_eq_true rfl) (d1 := d - 1) (b1 := 0) (s1 := 0) (bc' := 0) (bs' := 0) (Q1 := fun r h9 => r = .inl (some (.int v14)) ∧ h = h9) (by omega) rfl rfl (w_X5_get (by omega) ev14 (fun _ _ q => q)) (fun E h9 q => nomatch (show (Sum.inr E : tq_R) = Sum.inl _ from q.1)) (fun r9 h9 q => ?_)
      obtain ⟨q1, rfl⟩ := q
      cases (show (Sum.inl r9 : tq_R) = Sum.inl (some (.int v14)) from q1)
      refine tq_goto (M := mX4_nameBelow) (pc := 61) (tgt := 65) dX4_nameBelow_61 (by decide) ?_
      refine tq_pick (L2 := []) [] rfl ?_
      cases (Option.some.inj hf)
      exact HJ50
  refine tq_if_le (M := mX4_nameBelow) (pc := 15) (tgt := 47) dX4_nameBelow_15 (by decide) (fun cc => ?_) (fun cc => ?_)
  · have hf := tq_ifp ep12 cc
    refine tq_iconst (M := mX4_nameBelow) (pc := 47) dX4_nameBelow_47 tk_ki_0 ?_
    refine tq_pick (L2 := [(0, .ref t), (2, .int v1)]) [1, 0] rfl ?_
    cases (Option.some.inj hf)
    exact HJ15
  · have hf := tq_ifn ep12 cc
    refine tq_aload_n (M := mX4_nameBelow) (pc := 18) dX4_nameBelow_18 rfl ?_
    obtain ⟨r6, er6, hf⟩ := tq_be hf
    refine tq_getR (M := mX4_nameBelow) (pc := 19) tk_c4 (by decide) dX4_nameBelow_19 tk_RX4_20 rfl er6 ?_
    refine tq_iload_n (M := mX4_nameBelow) (pc := 22) dX4_nameBelow_22 rfl ?_
    obtain ⟨⟨⟩, eu8, hf⟩ := tq_be hf
    obtain ⟨fsu8, eu8⟩ := tq_is_s eu8
    obtain ⟨v7, ev7, hf⟩ := tq_be hf
    refine tq_calV (M := mX4_nameBelow) (pc := 23) (S := []) tk_y_X5_get tk_v_X5_get tk_RX4_48 dX4_nameBelow_23 [.int v1] rfl (S0 := _) rfl eu8 rfl (Nat.le_of_ble_eq_true rfl) (d1 := d - 1) (b1 := 0) (s1 := 0) (bc' := 0) (bs' := 0) (Q1 := fun r h9 => r = .inl (some (.int v7)) ∧ h = h9) (by omega) rfl rfl (w_X5_get (by omega) ev7 (fun _ _ q => q)) (fun E h9 q => nomatch (show (Sum.inr E : tq_R) = Sum.inl _ from q.1)) (fun r9 h9 q => ?_)
    obtain ⟨q1, rfl⟩ := q
    cases (show (Sum.inl r9 : tq_R) = Sum.inl (some (.int v7)) from q1)
    refine tq_iconst (M := mX4_nameBelow) (pc := 26) dX4_nameBelow_26 tk_ki_3 ?_
    refine tq_icmp_ne (M := mX4_nameBelow) (pc := 27) (tgt := 47) dX4_nameBelow_27 (by decide) (fun cc => ?_) (fun cc => ?_)
    · have hf := tq_ifn hf cc
      refine tq_iconst (M := mX4_nameBelow) (pc := 47) dX4_nameBelow_47 tk_ki_0 ?_
      refine tq_pick (L2 := [(0, .ref t), (2, .int v1)]) [1, 0] rfl ?_
      cases (Option.some.inj hf)
      exact HJ15
    · have hf := tq_ifp hf cc
      refine tq_aload_n (M := mX4_nameBelow) (pc := 30) dX4_nameBelow_30 rfl ?_
      obtain ⟨r9, er9, hf⟩ := tq_be hf
      refine tq_getR (M := mX4_nameBelow) (pc := 31) tk_c4 (by decide) dX4_nameBelow_31 tk_RX4_23 rfl er9 ?_
      refine tq_iload_n (M := mX4_nameBelow) (pc := 34) dX4_nameBelow_34 rfl ?_
      obtain ⟨⟨⟩, eu11, hf⟩ := tq_be hf
      obtain ⟨fsu11, eu11⟩ := tq_is_s eu11
      obtain ⟨v10, ev10, hf⟩ := tq_be hf
      refine tq_calV (M := mX4_nameBelow) (pc := 35) (S := []) tk_y_X5_get tk_v_X5_get tk_RX4_48 dX4_nameBelow_35 [.int v1] rfl (S0 := _) rfl eu11 rfl (Nat.le_of_ble_eq_true rfl) (d1 := d - 1) (b1 := 0) (s1 := 0) (bc' := 0) (bs' := 0) (Q1 := fun r h9 => r = .inl (some (.int v10)) ∧ h = h9) (by omega) rfl rfl (w_X5_get (by omega) ev10 (fun _ _ q => q)) (fun E h9 q => nomatch (show (Sum.inr E : tq_R) = Sum.inl _ from q.1)) (fun r9 h9 q => ?_)
      obtain ⟨q1, rfl⟩ := q
      cases (show (Sum.inl r9 : tq_R) = Sum.inl (some (.int v10)) from q1)
      refine tq_bipush (M := mX4_nameBelow) (pc := 38) dX4_nameBelow_38 tk_kb_8 ?_
      refine tq_icmp_ge (M := mX4_nameBelow) (pc := 40) (tgt := 47) dX4_nameBelow_40 (by decide) (fun cc => ?_) (fun cc => ?_)
      · have hf := tq_ifp hf cc
        refine tq_iconst (M := mX4_nameBelow) (pc := 47) dX4_nameBelow_47 tk_ki_0 ?_
        refine tq_pick (L2 := [(0, .ref t), (2, .int v1)]) [1, 0] rfl ?_
        cases (Option.some.inj hf)
        exact HJ15
      · have hf := tq_ifn hf cc
        refine tq_iconst (M := mX4_nameBelow) (pc := 43) dX4_nameBelow_43 tk_ki_1 ?_
        refine tq_goto (M := mX4_nameBelow) (pc := 44) (tgt := 48) dX4_nameBelow_44 (by decide) ?_
        refine tq_pick (L2 := [(0, .ref t), (2, .int v1)]) [1, 0] rfl ?_
        cases (Option.some.inj hf)
        exact HJ15
abbrev mX4_goesDown : tq_M := (RX4, cX4_goesDown, 1, (some .boolean), false, [])
def f_X4_goesDown (a0 : Int32) (h : tq_H) : Option (Int32) :=
  tq_let (if a0 = 0 then (1 : Int32) else (if a0 = (1 : Int32) then (1 : Int32) else if a0 = (3 : Int32) then (1 : Int32) else if a0 = (4 : Int32) then (1 : Int32) else if a0 = (11 : Int32) then (1 : Int32) else (0 : Int32))) fun p1 =>
  (tq_bz p1).bind fun z2 =>
  some z2
set_option maxHeartbeats 4000000 in
set_option maxRecDepth 20000 in
theorem w_X4_goesDown {l : Launch} {d : Nat} (hd9 : 0 ≤ d) {a0 : Int32} {h : tq_H} {o : Int32} {Q : tq_R → tq_H → Prop} (hf : f_X4_goesDown a0 h = some o) (hQ : ∀ r h9, r = .inl (some (.int o)) ∧ h = h9 → Q r h9) : tq_C l yX4_goesDown cX4_goesDown 1 (some .boolean) d 0 0 [.int a0] h Q := by
  refine tq_body (y := yX4_goesDown) false (by decide +kernel) (fun z => by cases z) (Nat.le_of_ble_eq_true rfl) ?_
  show tq_W l mX4_goesDown d 0 0 Q 0 [(0, .int a0)] [] h
  refine tq_iload_n (M := mX4_goesDown) (pc := 0) dX4_goesDown_0 rfl ?_
  obtain ⟨p1, ep1, hf⟩ := tq_le hf
  have HJ1 : tq_W l mX4_goesDown d 0 0 Q 30 [] [.int p1] h := by
    obtain ⟨z2, ez2, hf⟩ := tq_be hf
    refine tq_zretB (M := mX4_goesDown) (pc := 30) dX4_goesDown_30 rfl ez2 ?_
    cases (Option.some.inj hf)
    exact hQ _ _ ⟨rfl, rfl⟩
  refine tq_if_eq (M := mX4_goesDown) (pc := 1) (tgt := 25) dX4_goesDown_1 (by decide) (fun cc => ?_) (fun cc => ?_)
  · have hf := tq_ifp ep1.symm cc
    refine tq_iconst (M := mX4_goesDown) (pc := 25) dX4_goesDown_25 tk_ki_1 ?_
    refine tq_goto (M := mX4_goesDown) (pc := 26) (tgt := 30) dX4_goesDown_26 (by decide) ?_
    refine tq_pick (L2 := []) [] rfl ?_
    cases hf
    exact HJ1
  · have hf := tq_ifn ep1.symm cc
    refine tq_iload_n (M := mX4_goesDown) (pc := 4) dX4_goesDown_4 rfl ?_
    refine tq_iconst (M := mX4_goesDown) (pc := 5) dX4_goesDown_5 tk_ki_1 ?_
    refine tq_icmp_eq (M := mX4_goesDown) (pc := 6) (tgt := 25) dX4_goesDown_6 (by decide) (fun cc => ?_) (fun cc => ?_)
    · have hf := tq_ifp hf cc
      refine tq_iconst (M := mX4_goesDown) (pc := 25) dX4_goesDown_25 tk_ki_1 ?_
      refine tq_goto (M := mX4_goesDown) (pc := 26) (tgt := 30) dX4_goesDown_26 (by decide) ?_
      refine tq_pick (L2 := []) [] rfl ?_
      cases hf
      exact HJ1
    · have hf := tq_ifn hf cc
      refine tq_iload_n (M := mX4_goesDown) (pc := 9) dX4_goesDown_9 rfl ?_
      refine tq_iconst (M := mX4_goesDown) (pc := 10) dX4_goesDown_10 tk_ki_3 ?_
      refine tq_icmp_eq (M := mX4_goesDown) (pc := 11) (tgt := 25) dX4_goesDown_11 (by decide) (fun cc => ?_) (fun cc => ?_)
      · have hf := tq_ifp hf cc
        refine tq_iconst (M := mX4_goesDown) (pc := 25) dX4_goesDown_25 tk_ki_1 ?_
        refine tq_goto (M := mX4_goesDown) (pc := 26) (tgt := 30) dX4_goesDown_26 (by decide) ?_
        refine tq_pick (L2 := []) [] rfl ?_
        cases hf
        exact HJ1
      · have hf := tq_ifn hf cc
        refine tq_iload_n (M := mX4_goesDown) (pc := 14) dX4_goesDown_14 rfl ?_
        refine tq_iconst (M := mX4_goesDown) (pc := 15) dX4_goesDown_15 tk_ki_4 ?_
        refine tq_icmp_eq (M := mX4_goesDown) (pc := 16) (tgt := 25) dX4_goesDown_16 (by decide) (fun cc => ?_) (fun cc => ?_)
        · have hf := tq_ifp hf cc
          refine tq_iconst (M := mX4_goesDown) (pc := 25) dX4_goesDown_25 tk_ki_1 ?_
          refine tq_goto (M := mX4_goesDown) (pc := 26) (tgt := 30) dX4_goesDown_26 (by decide) ?_
          refine tq_pick (L2 := []) [] rfl ?_
          cases hf
          exact HJ1
        · have hf := tq_ifn hf cc
          refine tq_iload_n (M := mX4_goesDown) (pc := 19) dX4_goesDown_19 rfl ?_
          refine tq_bipush (M := mX4_goesDown) (pc := 20) dX4_goesDown_20 tk_kb_11 ?_
          refine tq_icmp_ne (M := mX4_goesDown) (pc := 22) (tgt := 29) dX4_goesDown_22 (by decide) (fun cc => ?_) (fun cc => ?_)
          · have hf := tq_ifn hf cc
            refine tq_iconst (M := mX4_goesDown) (pc := 29) dX4_goesDown_29 tk_ki_0 ?_
            refine tq_pick (L2 := []) [] rfl ?_
            cases hf
            exact HJ1
          · have hf := tq_ifp hf cc
            refine tq_iconst (M := mX4_goesDown) (pc := 25) dX4_goesDown_25 tk_ki_1 ?_
            refine tq_goto (M := mX4_goesDown) (pc := 26) (tgt := 30) dX4_goesDown_26 (by decide) ?_
            refine tq_pick (L2 := []) [] rfl ?_
            cases hf
            exact HJ1
abbrev mX4_staysAtNode : tq_M := (RX4, cX4_staysAtNode, 5, (some .boolean), false, [])
def f_X4_staysAtNode_b2 (i0 : Nat) (i1 : Int32) (hh : tq_H) (s : Int32) : Option ((Int32) ⊕ ((Unit) ⊕ (Int32))) := match s with
  | y2 =>
    (tq_gr hh i0 4 0).bind fun r1 =>
    (tq_is hh r1 5).bind fun _ =>
    (f_X5_get r1 i1 hh).bind fun v2 =>
    if y2 ≥ v2 then
      some (.inr (.inl ()))
    else
      (tq_is hh i0 4).bind fun _ =>
      (f_X4_stepAt i0 i1 y2 hh).bind fun v4 =>
      (tq_gr hh i0 4 1).bind fun r6 =>
      (tq_is hh r6 5).bind fun _ =>
      (f_X5_get r6 v4 hh).bind fun v7 =>
      (if v7 = 0 then
        some (1 : Int32)
      else
        (tq_gr hh i0 4 1).bind fun r9 =>
        (tq_is hh r9 5).bind fun _ =>
        (f_X5_get r9 v4 hh).bind fun v10 =>
        if v10 = (11 : Int32) then
          some (1 : Int32)
        else
          some (0 : Int32)).bind fun p12 =>
      if p12 = 0 then
        some (.inr (.inr (0 : Int32)))
      else
        (tq_gr hh i0 4 4).bind fun r13 =>
        (tq_is hh r13 5).bind fun _ =>
        (f_X5_get r13 v4 hh).bind fun v14 =>
        if v14 ≤ 0 then
          tq_let (y2 + (1 : Int32)) fun x16 =>
          some (.inl x16)
        else
          some (.inr (.inr (0 : Int32)))
def f_X4_staysAtNode (t : Nat) (a1 : Int32) (h : tq_H) : Option (Int32) :=
  (tq_loop (f_X4_staysAtNode_b2 t a1 h) tq_N (0 : Int32)).bind fun o17 => match o17 with
  | .inl o17 =>
    some (1 : Int32)
  | .inr e9 =>
    some e9
set_option maxHeartbeats 4000000 in
theorem l_X4_staysAtNode_2 {l : Launch} {d : Nat} {Q : tq_R → tq_H → Prop} (hd9 : 1 ≤ d) (i0 : Nat) (i1 : Int32) (hh : tq_H) : ∀ (n : Nat) (y2 : Int32) (o : (Unit) ⊕ (Int32)), tq_loop (f_X4_staysAtNode_b2 i0 i1 hh) n y2 = some o → (match o with
    | .inl e9 => tq_W l mX4_staysAtNode d 0 0 Q 76 [] [] hh
    | .inr e9 => (∀ r h9, r = .inl (some (.int e9)) ∧ hh = h9 → Q r h9)) → tq_W l mX4_staysAtNode d 0 0 Q 2 [(0, .ref i0), (1, .int i1), (2, .int y2)] [] hh := by
  intro n
  induction n with
  | zero => intro y2 o hl; cases hl
  | succ n ih =>
    intro y2 o hl hk
    obtain ⟨oo, hf, ho⟩ := tq_loop_s hl
    refine tq_iload_n (M := mX4_staysAtNode) (pc := 2) dX4_staysAtNode_2 rfl ?_
    refine tq_aload_n (M := mX4_staysAtNode) (pc := 3) dX4_staysAtNode_3 rfl ?_
    obtain ⟨r1, er1, hf⟩ := tq_be hf
    refine tq_getR (M := mX4_staysAtNode) (pc := 4) tk_c4 (by decide) dX4_staysAtNode_4 tk_RX4_14 rfl er1 ?_
    refine tq_iload_n (M := mX4_staysAtNode) (pc := 7) dX4_staysAtNode_7 rfl ?_
    obtain ⟨⟨⟩, eu3, hf⟩ := tq_be hf
    obtain ⟨fsu3, eu3⟩ := tq_is_s eu3
    obtain ⟨v2, ev2, hf⟩ := tq_be hf
    refine tq_calV (M := mX4_staysAtNode) (pc := 8) (S := [.int y2]) tk_y_X5_get tk_v_X5_get tk_RX4_48 dX4_staysAtNode_8 [.int i1] rfl (S0 := _) rfl eu3 rfl (Nat.le_of_ble_eq_true rfl) (d1 := d - 1) (b1 := 0) (s1 := 0) (bc' := 0) (bs' := 0) (Q1 := fun r h9 => r = .inl (some (.int v2)) ∧ hh = h9) (by omega) rfl rfl (w_X5_get (by omega) ev2 (fun _ _ q => q)) (fun E h9 q => nomatch (show (Sum.inr E : tq_R) = Sum.inl _ from q.1)) (fun r9 h9 q => ?_)
    obtain ⟨q1, rfl⟩ := q
    cases (show (Sum.inl r9 : tq_R) = Sum.inl (some (.int v2)) from q1)
    refine tq_icmp_ge (M := mX4_staysAtNode) (pc := 11) (tgt := 76) dX4_staysAtNode_11 (by decide) (fun cc => ?_) (fun cc => ?_)
    · have hf := tq_ifp hf cc
      refine tq_pick (L2 := []) [] rfl ?_
      cases (Option.some.inj hf)
      cases (tq_lx ho)
      exact hk
    · have hf := tq_ifn hf cc
      refine tq_aload_n (M := mX4_staysAtNode) (pc := 14) dX4_staysAtNode_14 rfl ?_
      refine tq_iload_n (M := mX4_staysAtNode) (pc := 15) dX4_staysAtNode_15 rfl ?_
      refine tq_iload_n (M := mX4_staysAtNode) (pc := 16) dX4_staysAtNode_16 rfl ?_
      obtain ⟨⟨⟩, eu5, hf⟩ := tq_be hf
      obtain ⟨fsu5, eu5⟩ := tq_is_s eu5
      obtain ⟨v4, ev4, hf⟩ := tq_be hf
      refine tq_calV (M := mX4_staysAtNode) (pc := 17) (S := []) tk_y_X4_stepAt tk_v_X4_stepAt tk_RX4_52 dX4_staysAtNode_17 [.int i1, .int y2] rfl (S0 := _) rfl eu5 rfl (Nat.le_of_ble_eq_true rfl) (d1 := d - 1) (b1 := 0) (s1 := 0) (bc' := 0) (bs' := 0) (Q1 := fun r h9 => r = .inl (some (.int v4)) ∧ hh = h9) (by omega) rfl rfl (w_X4_stepAt (by omega) ev4 (fun _ _ q => q)) (fun E h9 q => nomatch (show (Sum.inr E : tq_R) = Sum.inl _ from q.1)) (fun r9 h9 q => ?_)
      obtain ⟨q1, rfl⟩ := q
      cases (show (Sum.inl r9 : tq_R) = Sum.inl (some (.int v4)) from q1)
      refine tq_istore_n (M := mX4_staysAtNode) (pc := 20) rfl dX4_staysAtNode_20 (L2 := [(3, .int v4), (0, .ref i0), (1, .int i1), (2, .int y2)]) (by decide) rfl ?_
      refine tq_aload_n (M := mX4_staysAtNode) (pc := 21) dX4_staysAtNode_21 rfl ?_
      obtain ⟨r6, er6, hf⟩ := tq_be hf
      refine tq_getR (M := mX4_staysAtNode) (pc := 22) tk_c4 (by decide) dX4_staysAtNode_22 tk_RX4_20 rfl er6 ?_
      refine tq_iload_n (M := mX4_staysAtNode) (pc := 25) dX4_staysAtNode_25 rfl ?_
      obtain ⟨⟨⟩, eu8, hf⟩ := tq_be hf
      obtain ⟨fsu8, eu8⟩ := tq_is_s eu8
      obtain ⟨v7, ev7, hf⟩ := tq_be hf
      refine tq_calV (M := mX4_staysAtNode) (pc := 26) (S := []) tk_y_X5_get tk_v_X5_get tk_RX4_48 dX4_staysAtNode_26 [.int v4] rfl (S0 := _) rfl eu8 rfl (Nat.le_of_ble_eq_true rfl) (d1 := d - 1) (b1 := 0) (s1 := 0) (bc' := 0) (bs' := 0) (Q1 := fun r h9 => r = .inl (some (.int v7)) ∧ hh = h9) (by omega) rfl rfl (w_X5_get (by omega) ev7 (fun _ _ q => q)) (fun E h9 q => nomatch (show (Sum.inr E : tq_R) = Sum.inl _ from q.1)) (fun r9 h9 q => ?_)
      obtain ⟨q1, rfl⟩ := q
      cases (show (Sum.inl r9 : tq_R) = Sum.inl (some (.int v7)) from q1)
      obtain ⟨p12, ep12, hf⟩ := tq_be hf
      have HJ29 : tq_W l mX4_staysAtNode d 0 0 Q 50 [(0, .ref i0), (1, .int i1), (2, .int y2), (3, .int v4)] [.int p12] hh := by
        refine tq_istore (M := mX4_staysAtNode) (pc := 50) dX4_staysAtNode_50 (L2 := [(4, .int p12), (0, .ref i0), (1, .int i1), (2, .int y2), (3, .int v4)]) (by decide) rfl ?_
        refine tq_iload (M := mX4_staysAtNode) (pc := 52) dX4_staysAtNode_52 rfl ?_
        refine tq_if_eq (M := mX4_staysAtNode) (pc := 54) (tgt := 68) dX4_staysAtNode_54 (by decide) (fun cc => ?_) (fun cc => ?_)
        · have hf := tq_ifp hf cc
          refine tq_iconst (M := mX4_staysAtNode) (pc := 68) dX4_staysAtNode_68 tk_ki_0 ?_
          refine tq_zret (M := mX4_staysAtNode) (pc := 69) dX4_staysAtNode_69 rfl (Or.inl rfl) ?_
          cases (Option.some.inj hf)
          cases (tq_lx ho)
          exact hk _ _ ⟨rfl, rfl⟩
        · have hf := tq_ifn hf cc
          refine tq_aload_n (M := mX4_staysAtNode) (pc := 57) dX4_staysAtNode_57 rfl ?_
          obtain ⟨r13, er13, hf⟩ := tq_be hf
          refine tq_getR (M := mX4_staysAtNode) (pc := 58) tk_c4 (by decide) dX4_staysAtNode_58 tk_RX4_29 rfl er13 ?_
          refine tq_iload_n (M := mX4_staysAtNode) (pc := 61) dX4_staysAtNode_61 rfl ?_
          obtain ⟨⟨⟩, eu15, hf⟩ := tq_be hf
          obtain ⟨fsu15, eu15⟩ := tq_is_s eu15
          obtain ⟨v14, ev14, hf⟩ := tq_be hf
          refine tq_calV (M := mX4_staysAtNode) (pc := 62) (S := []) tk_y_X5_get tk_v_X5_get tk_RX4_48 dX4_staysAtNode_62 [.int v4] rfl (S0 := _) rfl eu15 rfl (Nat.le_of_ble_eq_true rfl) (d1 := d - 1) (b1 := 0) (s1 := 0) (bc' := 0) (bs' := 0) (Q1 := fun r h9 => r = .inl (some (.int v14)) ∧ hh = h9) (by omega) rfl rfl (w_X5_get (by omega) ev14 (fun _ _ q => q)) (fun E h9 q => nomatch (show (Sum.inr E : tq_R) = Sum.inl _ from q.1)) (fun r9 h9 q => ?_)
          obtain ⟨q1, rfl⟩ := q
          cases (show (Sum.inl r9 : tq_R) = Sum.inl (some (.int v14)) from q1)
          refine tq_if_le (M := mX4_staysAtNode) (pc := 65) (tgt := 70) dX4_staysAtNode_65 (by decide) (fun cc => ?_) (fun cc => ?_)
          · have hf := tq_ifp hf cc
            obtain ⟨x16, ex16, hf⟩ := tq_le hf
            refine tq_iinc (M := mX4_staysAtNode) (pc := 70) (v := x16) (L2 := [(2, .int x16), (4, .int p12), (0, .ref i0), (1, .int i1), (3, .int v4)]) dX4_staysAtNode_70 rfl (by rw [ex16, tk_ki_1]) (by decide) rfl ?_
            refine tq_goto (M := mX4_staysAtNode) (pc := 73) (tgt := 2) dX4_staysAtNode_73 (by decide) ?_
            refine tq_pick (L2 := [(0, .ref i0), (1, .int i1), (2, .int x16)]) [2, 3, 0] rfl ?_
            cases (Option.some.inj hf)
            exact ih _ o (tq_lc ho) hk
          · have hf := tq_ifn hf cc
            refine tq_iconst (M := mX4_staysAtNode) (pc := 68) dX4_staysAtNode_68 tk_ki_0 ?_
            refine tq_zret (M := mX4_staysAtNode) (pc := 69) dX4_staysAtNode_69 rfl (Or.inl rfl) ?_
            cases (Option.some.inj hf)
            cases (tq_lx ho)
            exact hk _ _ ⟨rfl, rfl⟩
      refine tq_if_eq (M := mX4_staysAtNode) (pc := 29) (tgt := 45) dX4_staysAtNode_29 (by decide) (fun cc => ?_) (fun cc => ?_)
      · have hf := tq_ifp ep12 cc
        refine tq_iconst (M := mX4_staysAtNode) (pc := 45) dX4_staysAtNode_45 tk_ki_1 ?_
        refine tq_goto (M := mX4_staysAtNode) (pc := 46) (tgt := 50) dX4_staysAtNode_46 (by decide) ?_
        refine tq_pick (L2 := [(0, .ref i0), (1, .int i1), (2, .int y2), (3, .int v4)]) [1, 2, 3, 0] rfl ?_
        cases (Option.some.inj hf)
        exact HJ29
      · have hf := tq_ifn ep12 cc
        refine tq_aload_n (M := mX4_staysAtNode) (pc := 32) dX4_staysAtNode_32 rfl ?_
        obtain ⟨r9, er9, hf⟩ := tq_be hf
        refine tq_getR (M := mX4_staysAtNode) (pc := 33) tk_c4 (by decide) dX4_staysAtNode_33 tk_RX4_20 rfl er9 ?_
        refine tq_iload_n (M := mX4_staysAtNode) (pc := 36) dX4_staysAtNode_36 rfl ?_
        obtain ⟨⟨⟩, eu11, hf⟩ := tq_be hf
        obtain ⟨fsu11, eu11⟩ := tq_is_s eu11
        obtain ⟨v10, ev10, hf⟩ := tq_be hf
        refine tq_calV (M := mX4_staysAtNode) (pc := 37) (S := []) tk_y_X5_get tk_v_X5_get tk_RX4_48 dX4_staysAtNode_37 [.int v4] rfl (S0 := _) rfl eu11 rfl (Nat.le_of_ble_eq_true rfl) (d1 := d - 1) (b1 := 0) (s1 := 0) (bc' := 0) (bs' := 0) (Q1 := fun r h9 => r = .inl (some (.int v10)) ∧ hh = h9) (by omega) rfl rfl (w_X5_get (by omega) ev10 (fun _ _ q => q)) (fun E h9 q => nomatch (show (Sum.inr E : tq_R) = Sum.inl _ from q.1)) (fun r9 h9 q => ?_)
        obtain ⟨q1, rfl⟩ := q
        cases (show (Sum.inl r9 : tq_R) = Sum.inl (some (.int v10)) from q1)
        refine tq_bipush (M := mX4_staysAtNode) (pc := 40) dX4_staysAtNode_40 tk_kb_11 ?_
        refine tq_icmp_ne (M := mX4_staysAtNode) (pc := 42) (tgt := 49) dX4_staysAtNode_42 (by decide) (fun cc => ?_) (fun cc => ?_)
        · have hf := tq_ifn hf cc
          refine tq_iconst (M := mX4_staysAtNode) (pc := 49) dX4_staysAtNode_49 tk_ki_0 ?_
          refine tq_pick (L2 := [(0, .ref i0), (1, .int i1), (2, .int y2), (3, .int v4)]) [1, 2, 3, 0] rfl ?_
          cases (Option.some.inj hf)
          exact HJ29
        · have hf := tq_ifp hf cc
          refine tq_iconst (M := mX4_staysAtNode) (pc := 45) dX4_staysAtNode_45 tk_ki_1 ?_
          refine tq_goto (M := mX4_staysAtNode) (pc := 46) (tgt := 50) dX4_staysAtNode_46 (by decide) ?_
          refine tq_pick (L2 := [(0, .ref i0), (1, .int i1), (2, .int y2), (3, .int v4)]) [1, 2, 3, 0] rfl ?_
          cases (Option.some.inj hf)
          exact HJ29
set_option maxHeartbeats 4000000 in
set_option maxRecDepth 20000 in
theorem w_X4_staysAtNode {l : Launch} {d : Nat} (hd9 : 1 ≤ d) {t : Nat} {a1 : Int32} {h : tq_H} {o : Int32} {Q : tq_R → tq_H → Prop} (hf : f_X4_staysAtNode t a1 h = some o) (hQ : ∀ r h9, r = .inl (some (.int o)) ∧ h = h9 → Q r h9) : tq_C l yX4_staysAtNode cX4_staysAtNode 5 (some .boolean) d 0 0 [.ref t, .int a1] h Q := by
  refine tq_body (y := yX4_staysAtNode) false (by decide +kernel) (fun z => by cases z) (Nat.le_of_ble_eq_true rfl) ?_
  show tq_W l mX4_staysAtNode d 0 0 Q 0 [(0, .ref t), (1, .int a1)] [] h
  refine tq_iconst (M := mX4_staysAtNode) (pc := 0) dX4_staysAtNode_0 tk_ki_0 ?_
  refine tq_istore_n (M := mX4_staysAtNode) (pc := 1) rfl dX4_staysAtNode_1 (L2 := [(2, .int (0 : Int32)), (0, .ref t), (1, .int a1)]) (by decide) rfl ?_
  obtain ⟨o17, eo17, hf⟩ := tq_be hf
  refine tq_pick (L2 := [(0, .ref t), (1, .int a1), (2, .int (0 : Int32))]) [1, 2, 0] rfl ?_
  refine l_X4_staysAtNode_2 (by omega) t a1 h _ (0 : Int32) _ eo17 ?_
  cases o17 with
  | inl o17 =>
    refine tq_iconst (M := mX4_staysAtNode) (pc := 76) dX4_staysAtNode_76 tk_ki_1 ?_
    refine tq_zret (M := mX4_staysAtNode) (pc := 77) dX4_staysAtNode_77 rfl (Or.inr rfl) ?_
    cases (Option.some.inj hf)
    exact hQ _ _ ⟨rfl, rfl⟩
  | inr e9 =>
    cases (Option.some.inj hf)
    exact hQ
abbrev mX4_isTellableAtOnce : tq_M := (RX4, cX4_isTellableAtOnce, 3, (some .boolean), false, [])
def f_X4_isTellableAtOnce (t : Nat) (a1 : Int32) (h : tq_H) : Option (Int32) :=
  (tq_gr h t 4 5).bind fun r1 =>
  (tq_is h r1 5).bind fun _ =>
  (f_X5_get r1 a1 h).bind fun v2 =>
  if v2 = 0 then
    (tq_gr h t 4 7).bind fun r11 =>
    (tq_is h r11 5).bind fun _ =>
    (f_X5_get r11 a1 h).bind fun v12 =>
    tq_let (if v12 = (2 : Int32) then (0 : Int32) else (1 : Int32)) fun p14 =>
    (tq_bz p14).bind fun z15 =>
    some z15
  else
    (if v2 = (1 : Int32) then
      some (0 : Int32)
    else
      (tq_gr h t 4 6).bind fun r4 =>
      (tq_is h r4 5).bind fun _ =>
      (f_X5_get r4 a1 h).bind fun v5 =>
      (tq_is h t 4).bind fun _ =>
      (f_X4_staysAtNode t v5 h).bind fun v7 =>
      if v7 = 0 then
        some (0 : Int32)
      else
        some (1 : Int32)).bind fun p9 =>
    (tq_bz p9).bind fun z10 =>
    some z10
set_option maxHeartbeats 4000000 in
set_option maxRecDepth 20000 in
theorem w_X4_isTellableAtOnce {l : Launch} {d : Nat} (hd9 : 2 ≤ d) {t : Nat} {a1 : Int32} {h : tq_H} {o : Int32} {Q : tq_R → tq_H → Prop} (hf : f_X4_isTellableAtOnce t a1 h = some o) (hQ : ∀ r h9, r = .inl (some (.int o)) ∧ h = h9 → Q r h9) : tq_C l yX4_isTellableAtOnce cX4_isTellableAtOnce 3 (some .boolean) d 0 0 [.ref t, .int a1] h Q := by
  refine tq_body (y := yX4_isTellableAtOnce) false (by decide +kernel) (fun z => by cases z) (Nat.le_of_ble_eq_true rfl) ?_
  show tq_W l mX4_isTellableAtOnce d 0 0 Q 0 [(0, .ref t), (1, .int a1)] [] h
  refine tq_aload_n (M := mX4_isTellableAtOnce) (pc := 0) dX4_isTellableAtOnce_0 rfl ?_
  obtain ⟨r1, er1, hf⟩ := tq_be hf
  refine tq_getR (M := mX4_isTellableAtOnce) (pc := 1) tk_c4 (by decide) dX4_isTellableAtOnce_1 tk_RX4_32 rfl er1 ?_
  refine tq_iload_n (M := mX4_isTellableAtOnce) (pc := 4) dX4_isTellableAtOnce_4 rfl ?_
  obtain ⟨⟨⟩, eu3, hf⟩ := tq_be hf
  obtain ⟨fsu3, eu3⟩ := tq_is_s eu3
  obtain ⟨v2, ev2, hf⟩ := tq_be hf
  refine tq_calV (M := mX4_isTellableAtOnce) (pc := 5) (S := []) tk_y_X5_get tk_v_X5_get tk_RX4_48 dX4_isTellableAtOnce_5 [.int a1] rfl (S0 := _) rfl eu3 rfl (Nat.le_of_ble_eq_true rfl) (d1 := d - 1) (b1 := 0) (s1 := 0) (bc' := 0) (bs' := 0) (Q1 := fun r h9 => r = .inl (some (.int v2)) ∧ h = h9) (by omega) rfl rfl (w_X5_get (by omega) ev2 (fun _ _ q => q)) (fun E h9 q => nomatch (show (Sum.inr E : tq_R) = Sum.inl _ from q.1)) (fun r9 h9 q => ?_)
  obtain ⟨q1, rfl⟩ := q
  cases (show (Sum.inl r9 : tq_R) = Sum.inl (some (.int v2)) from q1)
  refine tq_istore_n (M := mX4_isTellableAtOnce) (pc := 8) rfl dX4_isTellableAtOnce_8 (L2 := [(2, .int v2), (0, .ref t), (1, .int a1)]) (by decide) rfl ?_
  refine tq_iload_n (M := mX4_isTellableAtOnce) (pc := 9) dX4_isTellableAtOnce_9 rfl ?_
  refine tq_if_ne (M := mX4_isTellableAtOnce) (pc := 10) (tgt := 31) dX4_isTellableAtOnce_10 (by decide) (fun cc => ?_) (fun cc => ?_)
  · have hf := tq_ifn hf cc
    refine tq_iload_n (M := mX4_isTellableAtOnce) (pc := 31) dX4_isTellableAtOnce_31 rfl ?_
    refine tq_iconst (M := mX4_isTellableAtOnce) (pc := 32) dX4_isTellableAtOnce_32 tk_ki_1 ?_
    obtain ⟨p9, ep9, hf⟩ := tq_be hf
    have HJ33 : tq_W l mX4_isTellableAtOnce d 0 0 Q 56 [] [.int p9] h := by
      obtain ⟨z10, ez10, hf⟩ := tq_be hf
      refine tq_zretB (M := mX4_isTellableAtOnce) (pc := 56) dX4_isTellableAtOnce_56 rfl ez10 ?_
      cases (Option.some.inj hf)
      exact hQ _ _ ⟨rfl, rfl⟩
    refine tq_icmp_eq (M := mX4_isTellableAtOnce) (pc := 33) (tgt := 55) dX4_isTellableAtOnce_33 (by decide) (fun cc => ?_) (fun cc => ?_)
    · have hf := tq_ifp ep9 cc
      refine tq_iconst (M := mX4_isTellableAtOnce) (pc := 55) dX4_isTellableAtOnce_55 tk_ki_0 ?_
      refine tq_pick (L2 := []) [] rfl ?_
      cases (Option.some.inj hf)
      exact HJ33
    · have hf := tq_ifn ep9 cc
      refine tq_aload_n (M := mX4_isTellableAtOnce) (pc := 36) dX4_isTellableAtOnce_36 rfl ?_
      refine tq_aload_n (M := mX4_isTellableAtOnce) (pc := 37) dX4_isTellableAtOnce_37 rfl ?_
      obtain ⟨r4, er4, hf⟩ := tq_be hf
      refine tq_getR (M := mX4_isTellableAtOnce) (pc := 38) tk_c4 (by decide) dX4_isTellableAtOnce_38 tk_RX4_35 rfl er4 ?_
      refine tq_iload_n (M := mX4_isTellableAtOnce) (pc := 41) dX4_isTellableAtOnce_41 rfl ?_
      obtain ⟨⟨⟩, eu6, hf⟩ := tq_be hf
      obtain ⟨fsu6, eu6⟩ := tq_is_s eu6
      obtain ⟨v5, ev5, hf⟩ := tq_be hf
      refine tq_calV (M := mX4_isTellableAtOnce) (pc := 42) (S := [.ref t]) tk_y_X5_get tk_v_X5_get tk_RX4_48 dX4_isTellableAtOnce_42 [.int a1] rfl (S0 := _) rfl eu6 rfl (Nat.le_of_ble_eq_true rfl) (d1 := d - 1) (b1 := 0) (s1 := 0) (bc' := 0) (bs' := 0) (Q1 := fun r h9 => r = .inl (some (.int v5)) ∧ h = h9) (by omega) rfl rfl (w_X5_get (by omega) ev5 (fun _ _ q => q)) (fun E h9 q => nomatch (show (Sum.inr E : tq_R) = Sum.inl _ from q.1)) (fun r9 h9 q => ?_)
      obtain ⟨q1, rfl⟩ := q
      cases (show (Sum.inl r9 : tq_R) = Sum.inl (some (.int v5)) from q1)
      obtain ⟨⟨⟩, eu8, hf⟩ := tq_be hf
      obtain ⟨fsu8, eu8⟩ := tq_is_s eu8
      obtain ⟨v7, ev7, hf⟩ := tq_be hf
      refine tq_calV (M := mX4_isTellableAtOnce) (pc := 45) (S := []) tk_y_X4_staysAtNode tk_v_X4_staysAtNode tk_RX4_69 dX4_isTellableAtOnce_45 [.int v5] rfl (S0 := _) rfl eu8 rfl (Nat.le_of_ble_eq_true rfl) (d1 := d - 1) (b1 := 0) (s1 := 0) (bc' := 0) (bs' := 0) (Q1 := fun r h9 => r = .inl (some (.int v7)) ∧ h = h9) (by omega) rfl rfl (w_X4_staysAtNode (by omega) ev7 (fun _ _ q => q)) (fun E h9 q => nomatch (show (Sum.inr E : tq_R) = Sum.inl _ from q.1)) (fun r9 h9 q => ?_)
      obtain ⟨q1, rfl⟩ := q
      cases (show (Sum.inl r9 : tq_R) = Sum.inl (some (.int v7)) from q1)
      refine tq_if_eq (M := mX4_isTellableAtOnce) (pc := 48) (tgt := 55) dX4_isTellableAtOnce_48 (by decide) (fun cc => ?_) (fun cc => ?_)
      · have hf := tq_ifp hf cc
        refine tq_iconst (M := mX4_isTellableAtOnce) (pc := 55) dX4_isTellableAtOnce_55 tk_ki_0 ?_
        refine tq_pick (L2 := []) [] rfl ?_
        cases (Option.some.inj hf)
        exact HJ33
      · have hf := tq_ifn hf cc
        refine tq_iconst (M := mX4_isTellableAtOnce) (pc := 51) dX4_isTellableAtOnce_51 tk_ki_1 ?_
        refine tq_goto (M := mX4_isTellableAtOnce) (pc := 52) (tgt := 56) dX4_isTellableAtOnce_52 (by decide) ?_
        refine tq_pick (L2 := []) [] rfl ?_
        cases (Option.some.inj hf)
        exact HJ33
  · have hf := tq_ifp hf cc
    refine tq_aload_n (M := mX4_isTellableAtOnce) (pc := 13) dX4_isTellableAtOnce_13 rfl ?_
    obtain ⟨r11, er11, hf⟩ := tq_be hf
    refine tq_getR (M := mX4_isTellableAtOnce) (pc := 14) tk_c4 (by decide) dX4_isTellableAtOnce_14 tk_RX4_38 rfl er11 ?_
    refine tq_iload_n (M := mX4_isTellableAtOnce) (pc := 17) dX4_isTellableAtOnce_17 rfl ?_
    obtain ⟨⟨⟩, eu13, hf⟩ := tq_be hf
    obtain ⟨fsu13, eu13⟩ := tq_is_s eu13
    obtain ⟨v12, ev12, hf⟩ := tq_be hf
    refine tq_calV (M := mX4_isTellableAtOnce) (pc := 18) (S := []) tk_y_X5_get tk_v_X5_get tk_RX4_48 dX4_isTellableAtOnce_18 [.int a1] rfl (S0 := _) rfl eu13 rfl (Nat.le_of_ble_eq_true rfl) (d1 := d - 1) (b1 := 0) (s1 := 0) (bc' := 0) (bs' := 0) (Q1 := fun r h9 => r = .inl (some (.int v12)) ∧ h = h9) (by omega) rfl rfl (w_X5_get (by omega) ev12 (fun _ _ q => q)) (fun E h9 q => nomatch (show (Sum.inr E : tq_R) = Sum.inl _ from q.1)) (fun r9 h9 q => ?_)
    obtain ⟨q1, rfl⟩ := q
    cases (show (Sum.inl r9 : tq_R) = Sum.inl (some (.int v12)) from q1)
    refine tq_iconst (M := mX4_isTellableAtOnce) (pc := 21) dX4_isTellableAtOnce_21 tk_ki_2 ?_
    obtain ⟨p14, ep14, hf⟩ := tq_le hf
    have HJ22 : tq_W l mX4_isTellableAtOnce d 0 0 Q 30 [] [.int p14] h := by
      obtain ⟨z15, ez15, hf⟩ := tq_be hf
      refine tq_zretB (M := mX4_isTellableAtOnce) (pc := 30) dX4_isTellableAtOnce_30 rfl ez15 ?_
      cases (Option.some.inj hf)
      exact hQ _ _ ⟨rfl, rfl⟩
    refine tq_icmp_eq (M := mX4_isTellableAtOnce) (pc := 22) (tgt := 29) dX4_isTellableAtOnce_22 (by decide) (fun cc => ?_) (fun cc => ?_)
    · have hf := tq_ifp ep14.symm cc
      refine tq_iconst (M := mX4_isTellableAtOnce) (pc := 29) dX4_isTellableAtOnce_29 tk_ki_0 ?_
      refine tq_pick (L2 := []) [] rfl ?_
      cases hf
      exact HJ22
    · have hf := tq_ifn ep14.symm cc
      refine tq_iconst (M := mX4_isTellableAtOnce) (pc := 25) dX4_isTellableAtOnce_25 tk_ki_1 ?_
      refine tq_goto (M := mX4_isTellableAtOnce) (pc := 26) (tgt := 30) dX4_isTellableAtOnce_26 (by decide) ?_
      refine tq_pick (L2 := []) [] rfl ?_
      cases hf
      exact HJ22
abbrev mX4_canStream : tq_M := (RX4, cX4_canStream, 5, (some .boolean), false, [])
def f_X4_canStream_b40 (i0 : Nat) (i1 : Int32) (i2 : Int32) (i3 : Int32) (hh : tq_H) (s : Int32) : Option ((Int32) ⊕ ((Unit) ⊕ (Int32))) := match s with
  | y4 =>
    (tq_gr hh i0 4 4).bind fun r10 =>
    (tq_is hh r10 5).bind fun _ =>
    (f_X5_get r10 i3 hh).bind fun v11 =>
    if y4 ≥ v11 then
      some (.inr (.inl ()))
    else
      (tq_is hh i0 4).bind fun _ =>
      (f_X4_conditionAt i0 i3 y4 hh).bind fun v13 =>
      (tq_is hh i0 4).bind fun _ =>
      (f_X4_isTellableAtOnce i0 v13 hh).bind fun v15 =>
      if v15 = 0 then
        some (.inr (.inr (0 : Int32)))
      else
        tq_let (y4 + (1 : Int32)) fun x17 =>
        some (.inl x17)
def f_X4_canStream_b2 (i0 : Nat) (i1 : Int32) (hh : tq_H) (s : Int32) : Option ((Int32) ⊕ ((Unit) ⊕ (Int32))) := match s with
  | y2 =>
    (tq_gr hh i0 4 0).bind fun r1 =>
    (tq_is hh r1 5).bind fun _ =>
    (f_X5_get r1 i1 hh).bind fun v2 =>
    if y2 ≥ v2 then
      some (.inr (.inl ()))
    else
      (tq_is hh i0 4).bind fun _ =>
      (f_X4_stepAt i0 i1 y2 hh).bind fun v4 =>
      (tq_gr hh i0 4 1).bind fun r6 =>
      (tq_is hh r6 5).bind fun _ =>
      (f_X5_get r6 v4 hh).bind fun v7 =>
      (f_X4_goesDown v7 hh).bind fun v9 =>
      if v9 = 0 then
        some (.inr (.inr (0 : Int32)))
      else
        (tq_loop (f_X4_canStream_b40 i0 i1 y2 v4 hh) tq_N (0 : Int32)).bind fun o18 => match o18 with
        | .inl o18 =>
          tq_let (y2 + (1 : Int32)) fun x19 =>
          some (.inl x19)
        | .inr e9 =>
          some (.inr (.inr e9))
def f_X4_canStream (t : Nat) (a1 : Int32) (h : tq_H) : Option (Int32) :=
  (tq_loop (f_X4_canStream_b2 t a1 h) tq_N (0 : Int32)).bind fun o20 => match o20 with
  | .inl o20 =>
    some (1 : Int32)
  | .inr e9 =>
    some e9
set_option maxHeartbeats 4000000 in
theorem l_X4_canStream_40 {l : Launch} {d : Nat} {Q : tq_R → tq_H → Prop} (hd9 : 3 ≤ d) (i0 : Nat) (i1 : Int32) (i2 : Int32) (i3 : Int32) (hh : tq_H) : ∀ (n : Nat) (y4 : Int32) (o : (Unit) ⊕ (Int32)), tq_loop (f_X4_canStream_b40 i0 i1 i2 i3 hh) n y4 = some o → (match o with
    | .inl e9 => tq_W l mX4_canStream d 0 0 Q 75 [(0, .ref i0), (1, .int i1), (2, .int i2)] [] hh
    | .inr e9 => (∀ r h9, r = .inl (some (.int e9)) ∧ hh = h9 → Q r h9)) → tq_W l mX4_canStream d 0 0 Q 40 [(0, .ref i0), (1, .int i1), (2, .int i2), (3, .int i3), (4, .int y4)] [] hh := by
  intro n
  induction n with
  | zero => intro y4 o hl; cases hl
  | succ n ih =>
    intro y4 o hl hk
    obtain ⟨oo, hf, ho⟩ := tq_loop_s hl
    refine tq_iload (M := mX4_canStream) (pc := 40) dX4_canStream_40 rfl ?_
    refine tq_aload_n (M := mX4_canStream) (pc := 42) dX4_canStream_42 rfl ?_
    obtain ⟨r10, er10, hf⟩ := tq_be hf
    refine tq_getR (M := mX4_canStream) (pc := 43) tk_c4 (by decide) dX4_canStream_43 tk_RX4_29 rfl er10 ?_
    refine tq_iload_n (M := mX4_canStream) (pc := 46) dX4_canStream_46 rfl ?_
    obtain ⟨⟨⟩, eu12, hf⟩ := tq_be hf
    obtain ⟨fsu12, eu12⟩ := tq_is_s eu12
    obtain ⟨v11, ev11, hf⟩ := tq_be hf
    refine tq_calV (M := mX4_canStream) (pc := 47) (S := [.int y4]) tk_y_X5_get tk_v_X5_get tk_RX4_48 dX4_canStream_47 [.int i3] rfl (S0 := _) rfl eu12 rfl (Nat.le_of_ble_eq_true rfl) (d1 := d - 1) (b1 := 0) (s1 := 0) (bc' := 0) (bs' := 0) (Q1 := fun r h9 => r = .inl (some (.int v11)) ∧ hh = h9) (by omega) rfl rfl (w_X5_get (by omega) ev11 (fun _ _ q => q)) (fun E h9 q => nomatch (show (Sum.inr E : tq_R) = Sum.inl _ from q.1)) (fun r9 h9 q => ?_)
    obtain ⟨q1, rfl⟩ := q
    cases (show (Sum.inl r9 : tq_R) = Sum.inl (some (.int v11)) from q1)
    refine tq_icmp_ge (M := mX4_canStream) (pc := 50) (tgt := 75) dX4_canStream_50 (by decide) (fun cc => ?_) (fun cc => ?_)
    · have hf := tq_ifp hf cc
      refine tq_pick (L2 := [(0, .ref i0), (1, .int i1), (2, .int i2)]) [0, 1, 2] rfl ?_
      cases (Option.some.inj hf)
      cases (tq_lx ho)
      exact hk
    · have hf := tq_ifn hf cc
      refine tq_aload_n (M := mX4_canStream) (pc := 53) dX4_canStream_53 rfl ?_
      refine tq_aload_n (M := mX4_canStream) (pc := 54) dX4_canStream_54 rfl ?_
      refine tq_iload_n (M := mX4_canStream) (pc := 55) dX4_canStream_55 rfl ?_
      refine tq_iload (M := mX4_canStream) (pc := 56) dX4_canStream_56 rfl ?_
      obtain ⟨⟨⟩, eu14, hf⟩ := tq_be hf
      obtain ⟨fsu14, eu14⟩ := tq_is_s eu14
      obtain ⟨v13, ev13, hf⟩ := tq_be hf
      refine tq_calV (M := mX4_canStream) (pc := 58) (S := [.ref i0]) tk_y_X4_conditionAt tk_v_X4_conditionAt tk_RX4_59 dX4_canStream_58 [.int i3, .int y4] rfl (S0 := _) rfl eu14 rfl (Nat.le_of_ble_eq_true rfl) (d1 := d - 1) (b1 := 0) (s1 := 0) (bc' := 0) (bs' := 0) (Q1 := fun r h9 => r = .inl (some (.int v13)) ∧ hh = h9) (by omega) rfl rfl (w_X4_conditionAt (by omega) ev13 (fun _ _ q => q)) (fun E h9 q => nomatch (show (Sum.inr E : tq_R) = Sum.inl _ from q.1)) (fun r9 h9 q => ?_)
      obtain ⟨q1, rfl⟩ := q
      cases (show (Sum.inl r9 : tq_R) = Sum.inl (some (.int v13)) from q1)
      obtain ⟨⟨⟩, eu16, hf⟩ := tq_be hf
      obtain ⟨fsu16, eu16⟩ := tq_is_s eu16
      obtain ⟨v15, ev15, hf⟩ := tq_be hf
      refine tq_calV (M := mX4_canStream) (pc := 61) (S := []) tk_y_X4_isTellableAtOnce tk_v_X4_isTellableAtOnce tk_RX4_66 dX4_canStream_61 [.int v13] rfl (S0 := _) rfl eu16 rfl (Nat.le_of_ble_eq_true rfl) (d1 := d - 1) (b1 := 0) (s1 := 0) (bc' := 0) (bs' := 0) (Q1 := fun r h9 => r = .inl (some (.int v15)) ∧ hh = h9) (by omega) rfl rfl (w_X4_isTellableAtOnce (by omega) ev15 (fun _ _ q => q)) (fun E h9 q => nomatch (show (Sum.inr E : tq_R) = Sum.inl _ from q.1)) (fun r9 h9 q => ?_)
      obtain ⟨q1, rfl⟩ := q
      cases (show (Sum.inl r9 : tq_R) = Sum.inl (some (.int v15)) from q1)
      refine tq_if_ne (M := mX4_canStream) (pc := 64) (tgt := 69) dX4_canStream_64 (by decide) (fun cc => ?_) (fun cc => ?_)
      · have hf := tq_ifn hf cc
        obtain ⟨x17, ex17, hf⟩ := tq_le hf
        refine tq_iinc (M := mX4_canStream) (pc := 69) (v := x17) (L2 := [(4, .int x17), (0, .ref i0), (1, .int i1), (2, .int i2), (3, .int i3)]) dX4_canStream_69 rfl (by rw [ex17, tk_ki_1]) (by decide) rfl ?_
        refine tq_goto (M := mX4_canStream) (pc := 72) (tgt := 40) dX4_canStream_72 (by decide) ?_
        refine tq_pick (L2 := [(0, .ref i0), (1, .int i1), (2, .int i2), (3, .int i3), (4, .int x17)]) [1, 2, 3, 4, 0] rfl ?_
        cases (Option.some.inj hf)
        exact ih _ o (tq_lc ho) hk
      · have hf := tq_ifp hf cc
        refine tq_iconst (M := mX4_canStream) (pc := 67) dX4_canStream_67 tk_ki_0 ?_
        refine tq_zret (M := mX4_canStream) (pc := 68) dX4_canStream_68 rfl (Or.inl rfl) ?_
        cases (Option.some.inj hf)
        cases (tq_lx ho)
        exact hk _ _ ⟨rfl, rfl⟩
set_option maxHeartbeats 4000000 in
theorem l_X4_canStream_2 {l : Launch} {d : Nat} {Q : tq_R → tq_H → Prop} (hd9 : 3 ≤ d) (i0 : Nat) (i1 : Int32) (hh : tq_H) : ∀ (n : Nat) (y2 : Int32) (o : (Unit) ⊕ (Int32)), tq_loop (f_X4_canStream_b2 i0 i1 hh) n y2 = some o → (match o with
    | .inl e9 => tq_W l mX4_canStream d 0 0 Q 81 [] [] hh
    | .inr e9 => (∀ r h9, r = .inl (some (.int e9)) ∧ hh = h9 → Q r h9)) → tq_W l mX4_canStream d 0 0 Q 2 [(0, .ref i0), (1, .int i1), (2, .int y2)] [] hh := by
  intro n
  induction n with
  | zero => intro y2 o hl; cases hl
  | succ n ih =>
    intro y2 o hl hk
    obtain ⟨oo, hf, ho⟩ := tq_loop_s hl
    refine tq_iload_n (M := mX4_canStream) (pc := 2) dX4_canStream_2 rfl ?_
    refine tq_aload_n (M := mX4_canStream) (pc := 3) dX4_canStream_3 rfl ?_
    obtain ⟨r1, er1, hf⟩ := tq_be hf
    refine tq_getR (M := mX4_canStream) (pc := 4) tk_c4 (by decide) dX4_canStream_4 tk_RX4_14 rfl er1 ?_
    refine tq_iload_n (M := mX4_canStream) (pc := 7) dX4_canStream_7 rfl ?_
    obtain ⟨⟨⟩, eu3, hf⟩ := tq_be hf
    obtain ⟨fsu3, eu3⟩ := tq_is_s eu3
    obtain ⟨v2, ev2, hf⟩ := tq_be hf
    refine tq_calV (M := mX4_canStream) (pc := 8) (S := [.int y2]) tk_y_X5_get tk_v_X5_get tk_RX4_48 dX4_canStream_8 [.int i1] rfl (S0 := _) rfl eu3 rfl (Nat.le_of_ble_eq_true rfl) (d1 := d - 1) (b1 := 0) (s1 := 0) (bc' := 0) (bs' := 0) (Q1 := fun r h9 => r = .inl (some (.int v2)) ∧ hh = h9) (by omega) rfl rfl (w_X5_get (by omega) ev2 (fun _ _ q => q)) (fun E h9 q => nomatch (show (Sum.inr E : tq_R) = Sum.inl _ from q.1)) (fun r9 h9 q => ?_)
    obtain ⟨q1, rfl⟩ := q
    cases (show (Sum.inl r9 : tq_R) = Sum.inl (some (.int v2)) from q1)
    refine tq_icmp_ge (M := mX4_canStream) (pc := 11) (tgt := 81) dX4_canStream_11 (by decide) (fun cc => ?_) (fun cc => ?_)
    · have hf := tq_ifp hf cc
      refine tq_pick (L2 := []) [] rfl ?_
      cases (Option.some.inj hf)
      cases (tq_lx ho)
      exact hk
    · have hf := tq_ifn hf cc
      refine tq_aload_n (M := mX4_canStream) (pc := 14) dX4_canStream_14 rfl ?_
      refine tq_iload_n (M := mX4_canStream) (pc := 15) dX4_canStream_15 rfl ?_
      refine tq_iload_n (M := mX4_canStream) (pc := 16) dX4_canStream_16 rfl ?_
      obtain ⟨⟨⟩, eu5, hf⟩ := tq_be hf
      obtain ⟨fsu5, eu5⟩ := tq_is_s eu5
      obtain ⟨v4, ev4, hf⟩ := tq_be hf
      refine tq_calV (M := mX4_canStream) (pc := 17) (S := []) tk_y_X4_stepAt tk_v_X4_stepAt tk_RX4_52 dX4_canStream_17 [.int i1, .int y2] rfl (S0 := _) rfl eu5 rfl (Nat.le_of_ble_eq_true rfl) (d1 := d - 1) (b1 := 0) (s1 := 0) (bc' := 0) (bs' := 0) (Q1 := fun r h9 => r = .inl (some (.int v4)) ∧ hh = h9) (by omega) rfl rfl (w_X4_stepAt (by omega) ev4 (fun _ _ q => q)) (fun E h9 q => nomatch (show (Sum.inr E : tq_R) = Sum.inl _ from q.1)) (fun r9 h9 q => ?_)
      obtain ⟨q1, rfl⟩ := q
      cases (show (Sum.inl r9 : tq_R) = Sum.inl (some (.int v4)) from q1)
      refine tq_istore_n (M := mX4_canStream) (pc := 20) rfl dX4_canStream_20 (L2 := [(3, .int v4), (0, .ref i0), (1, .int i1), (2, .int y2)]) (by decide) rfl ?_
      refine tq_aload_n (M := mX4_canStream) (pc := 21) dX4_canStream_21 rfl ?_
      obtain ⟨r6, er6, hf⟩ := tq_be hf
      refine tq_getR (M := mX4_canStream) (pc := 22) tk_c4 (by decide) dX4_canStream_22 tk_RX4_20 rfl er6 ?_
      refine tq_iload_n (M := mX4_canStream) (pc := 25) dX4_canStream_25 rfl ?_
      obtain ⟨⟨⟩, eu8, hf⟩ := tq_be hf
      obtain ⟨fsu8, eu8⟩ := tq_is_s eu8
      obtain ⟨v7, ev7, hf⟩ := tq_be hf
      refine tq_calV (M := mX4_canStream) (pc := 26) (S := []) tk_y_X5_get tk_v_X5_get tk_RX4_48 dX4_canStream_26 [.int v4] rfl (S0 := _) rfl eu8 rfl (Nat.le_of_ble_eq_true rfl) (d1 := d - 1) (b1 := 0) (s1 := 0) (bc' := 0) (bs' := 0) (Q1 := fun r h9 => r = .inl (some (.int v7)) ∧ hh = h9) (by omega) rfl rfl (w_X5_get (by omega) ev7 (fun _ _ q => q)) (fun E h9 q => nomatch (show (Sum.inr E : tq_R) = Sum.inl _ from q.1)) (fun r9 h9 q => ?_)
      obtain ⟨q1, rfl⟩ := q
      cases (show (Sum.inl r9 : tq_R) = Sum.inl (some (.int v7)) from q1)
      obtain ⟨v9, ev9, hf⟩ := tq_be hf
      refine tq_calS (M := mX4_canStream) (pc := 29) (S := []) tk_y_X4_goesDown tk_s_X4_goesDown tk_RX4_62 dX4_canStream_29 [.int v7] rfl (Nat.le_of_ble_eq_true rfl) (d1 := d - 1) (b1 := 0) (s1 := 0) (bc' := 0) (bs' := 0) (Q1 := fun r h9 => r = .inl (some (.int v9)) ∧ hh = h9) (by omega) rfl rfl (w_X4_goesDown (by omega) ev9 (fun _ _ q => q)) (fun E h9 q => nomatch (show (Sum.inr E : tq_R) = Sum.inl _ from q.1)) (fun r9 h9 q => ?_)
      obtain ⟨q1, rfl⟩ := q
      cases (show (Sum.inl r9 : tq_R) = Sum.inl (some (.int v9)) from q1)
      refine tq_if_ne (M := mX4_canStream) (pc := 32) (tgt := 37) dX4_canStream_32 (by decide) (fun cc => ?_) (fun cc => ?_)
      · have hf := tq_ifn hf cc
        refine tq_iconst (M := mX4_canStream) (pc := 37) dX4_canStream_37 tk_ki_0 ?_
        refine tq_istore (M := mX4_canStream) (pc := 38) dX4_canStream_38 (L2 := [(4, .int (0 : Int32)), (3, .int v4), (0, .ref i0), (1, .int i1), (2, .int y2)]) (by decide) rfl ?_
        obtain ⟨o18, eo18, hf⟩ := tq_be hf
        refine tq_pick (L2 := [(0, .ref i0), (1, .int i1), (2, .int y2), (3, .int v4), (4, .int (0 : Int32))]) [2, 3, 4, 1, 0] rfl ?_
        refine l_X4_canStream_40 (by omega) i0 i1 y2 v4 hh _ (0 : Int32) _ eo18 ?_
        cases o18 with
        | inl o18 =>
          obtain ⟨x19, ex19, hf⟩ := tq_le hf
          refine tq_iinc (M := mX4_canStream) (pc := 75) (v := x19) (L2 := [(2, .int x19), (0, .ref i0), (1, .int i1)]) dX4_canStream_75 rfl (by rw [ex19, tk_ki_1]) (by decide) rfl ?_
          refine tq_goto (M := mX4_canStream) (pc := 78) (tgt := 2) dX4_canStream_78 (by decide) ?_
          refine tq_pick (L2 := [(0, .ref i0), (1, .int i1), (2, .int x19)]) [1, 2, 0] rfl ?_
          cases (Option.some.inj hf)
          exact ih _ o (tq_lc ho) hk
        | inr e9 =>
          cases (Option.some.inj hf)
          cases (tq_lx ho)
          exact hk
      · have hf := tq_ifp hf cc
        refine tq_iconst (M := mX4_canStream) (pc := 35) dX4_canStream_35 tk_ki_0 ?_
        refine tq_zret (M := mX4_canStream) (pc := 36) dX4_canStream_36 rfl (Or.inl rfl) ?_
        cases (Option.some.inj hf)
        cases (tq_lx ho)
        exact hk _ _ ⟨rfl, rfl⟩
set_option maxHeartbeats 4000000 in
set_option maxRecDepth 20000 in
theorem w_X4_canStream {l : Launch} {d : Nat} (hd9 : 3 ≤ d) {t : Nat} {a1 : Int32} {h : tq_H} {o : Int32} {Q : tq_R → tq_H → Prop} (hf : f_X4_canStream t a1 h = some o) (hQ : ∀ r h9, r = .inl (some (.int o)) ∧ h = h9 → Q r h9) : tq_C l yX4_canStream cX4_canStream 5 (some .boolean) d 0 0 [.ref t, .int a1] h Q := by
  refine tq_body (y := yX4_canStream) false (by decide +kernel) (fun z => by cases z) (Nat.le_of_ble_eq_true rfl) ?_
  show tq_W l mX4_canStream d 0 0 Q 0 [(0, .ref t), (1, .int a1)] [] h
  refine tq_iconst (M := mX4_canStream) (pc := 0) dX4_canStream_0 tk_ki_0 ?_
  refine tq_istore_n (M := mX4_canStream) (pc := 1) rfl dX4_canStream_1 (L2 := [(2, .int (0 : Int32)), (0, .ref t), (1, .int a1)]) (by decide) rfl ?_
  obtain ⟨o20, eo20, hf⟩ := tq_be hf
  refine tq_pick (L2 := [(0, .ref t), (1, .int a1), (2, .int (0 : Int32))]) [1, 2, 0] rfl ?_
  refine l_X4_canStream_2 (by omega) t a1 h _ (0 : Int32) _ eo20 ?_
  cases o20 with
  | inl o20 =>
    refine tq_iconst (M := mX4_canStream) (pc := 81) dX4_canStream_81 tk_ki_1 ?_
    refine tq_zret (M := mX4_canStream) (pc := 82) dX4_canStream_82 rfl (Or.inr rfl) ?_
    cases (Option.some.inj hf)
    exact hQ _ _ ⟨rfl, rfl⟩
  | inr e9 =>
    cases (Option.some.inj hf)
    exact hQ
end
