-- ===== PART A: goes FIRST, ahead of the names: the tables' words, and 'selects' of the private methods out of them =====
/-- a private method of a class that the tables say can be made, by its rows of tables_1 -/
def lw_okq (q : MethodName × Nat) : Prop := (q.1.cls ≠ "java/lang/invoke/MethodHandle" ∧ q.1.cls ≠ "java/lang/invoke/VarHandle") ∧ Cond.instantiable q.1.cls q.2 ∈ tables_1 ∧ Cond.privateMethod q.1 ∈ tables_1 ∧ Cond.instanceMethod q.1 ∈ tables_1
theorem lw_p0 : lw_okq (⟨"ProvenRows$Table", "sealAnew", "()V"⟩, 2) := ⟨⟨by decide +kernel, by decide +kernel⟩, List.mem_of_getElem? (i := 245) (by decide +kernel), List.mem_of_getElem? (i := 266) (by decide +kernel), List.mem_of_getElem? (i := 267) (by decide +kernel)⟩
theorem lw_p1 : lw_okq (⟨"ProvenRows", "found", "(I)I"⟩, 10) := ⟨⟨by decide +kernel, by decide +kernel⟩, List.mem_of_getElem? (i := 21) (by decide +kernel), List.mem_of_getElem? (i := 374) (by decide +kernel), List.mem_of_getElem? (i := 375) (by decide +kernel)⟩
theorem lw_p2 : lw_okq (⟨"ProvenRows", "fine", "(I)I"⟩, 10) := ⟨⟨by decide +kernel, by decide +kernel⟩, List.mem_of_getElem? (i := 21) (by decide +kernel), List.mem_of_getElem? (i := 387) (by decide +kernel), List.mem_of_getElem? (i := 388) (by decide +kernel)⟩
theorem lw_p3 : lw_okq (⟨"ProvenRows", "roundNumber", "(II)I"⟩, 10) := ⟨⟨by decide +kernel, by decide +kernel⟩, List.mem_of_getElem? (i := 21) (by decide +kernel), List.mem_of_getElem? (i := 497) (by decide +kernel), List.mem_of_getElem? (i := 498) (by decide +kernel)⟩
theorem lw_p4 : lw_okq (⟨"ProvenRows$Plans", "nextToken", "()V"⟩, 11) := ⟨⟨by decide +kernel, by decide +kernel⟩, List.mem_of_getElem? (i := 33) (by decide +kernel), List.mem_of_getElem? (i := 525) (by decide +kernel), List.mem_of_getElem? (i := 526) (by decide +kernel)⟩
theorem lw_p5 : lw_okq (⟨"ProvenRows$Plans", "byteAt", "(I)I"⟩, 11) := ⟨⟨by decide +kernel, by decide +kernel⟩, List.mem_of_getElem? (i := 33) (by decide +kernel), List.mem_of_getElem? (i := 529) (by decide +kernel), List.mem_of_getElem? (i := 530) (by decide +kernel)⟩
theorem lw_p6 : lw_okq (⟨"ProvenRows$Plans", "readName", "()V"⟩, 11) := ⟨⟨by decide +kernel, by decide +kernel⟩, List.mem_of_getElem? (i := 33) (by decide +kernel), List.mem_of_getElem? (i := 537) (by decide +kernel), List.mem_of_getElem? (i := 538) (by decide +kernel)⟩
theorem lw_p7 : lw_okq (⟨"ProvenRows$Plans", "readFigures", "()V"⟩, 11) := ⟨⟨by decide +kernel, by decide +kernel⟩, List.mem_of_getElem? (i := 33) (by decide +kernel), List.mem_of_getElem? (i := 544) (by decide +kernel), List.mem_of_getElem? (i := 545) (by decide +kernel)⟩
theorem lw_p8 : lw_okq (⟨"ProvenRows$Plans", "readAct", "(I)LProvenRows$Act;"⟩, 11) := ⟨⟨by decide +kernel, by decide +kernel⟩, List.mem_of_getElem? (i := 33) (by decide +kernel), List.mem_of_getElem? (i := 548) (by decide +kernel), List.mem_of_getElem? (i := 549) (by decide +kernel)⟩
theorem lw_p9 : lw_okq (⟨"ProvenRows$Plans", "wordOfToken", "()I"⟩, 11) := ⟨⟨by decide +kernel, by decide +kernel⟩, List.mem_of_getElem? (i := 33) (by decide +kernel), List.mem_of_getElem? (i := 552) (by decide +kernel), List.mem_of_getElem? (i := 553) (by decide +kernel)⟩
theorem lw_p10 : lw_okq (⟨"ProvenRows$Plans", "isTokenText", "(Ljava/lang/String;)Z"⟩, 11) := ⟨⟨by decide +kernel, by decide +kernel⟩, List.mem_of_getElem? (i := 33) (by decide +kernel), List.mem_of_getElem? (i := 566) (by decide +kernel), List.mem_of_getElem? (i := 567) (by decide +kernel)⟩
theorem lw_p11 : lw_okq (⟨"ProvenRows$Plans", "readNumber", "(II)V"⟩, 11) := ⟨⟨by decide +kernel, by decide +kernel⟩, List.mem_of_getElem? (i := 33) (by decide +kernel), List.mem_of_getElem? (i := 621) (by decide +kernel), List.mem_of_getElem? (i := 622) (by decide +kernel)⟩
theorem lw_p12 : lw_okq (⟨"ProvenRows$Plans", "isAsTold", "(III)Z"⟩, 11) := ⟨⟨by decide +kernel, by decide +kernel⟩, List.mem_of_getElem? (i := 33) (by decide +kernel), List.mem_of_getElem? (i := 625) (by decide +kernel), List.mem_of_getElem? (i := 626) (by decide +kernel)⟩
theorem lw_p13 : lw_okq (⟨"ProvenRows$Plans", "actOf", "(I)LProvenRows$Act;"⟩, 11) := ⟨⟨by decide +kernel, by decide +kernel⟩, List.mem_of_getElem? (i := 33) (by decide +kernel), List.mem_of_getElem? (i := 629) (by decide +kernel), List.mem_of_getElem? (i := 630) (by decide +kernel)⟩
theorem lw_p14 : lw_okq (⟨"ProvenRows$Prover", "hideAll", "()V"⟩, 5) := ⟨⟨by decide +kernel, by decide +kernel⟩, List.mem_of_getElem? (i := 76) (by decide +kernel), List.mem_of_getElem? (i := 700) (by decide +kernel), List.mem_of_getElem? (i := 701) (by decide +kernel)⟩
theorem lw_p15 : lw_okq (⟨"ProvenRows$Prover", "show", "(II)V"⟩, 5) := ⟨⟨by decide +kernel, by decide +kernel⟩, List.mem_of_getElem? (i := 76) (by decide +kernel), List.mem_of_getElem? (i := 704) (by decide +kernel), List.mem_of_getElem? (i := 705) (by decide +kernel)⟩
def lw_privs_1 : List (MethodName × Nat) := [(⟨"ProvenRows$Table", "sealAnew", "()V"⟩, 2), (⟨"ProvenRows", "found", "(I)I"⟩, 10), (⟨"ProvenRows", "fine", "(I)I"⟩, 10), (⟨"ProvenRows", "roundNumber", "(II)I"⟩, 10), (⟨"ProvenRows$Plans", "nextToken", "()V"⟩, 11), (⟨"ProvenRows$Plans", "byteAt", "(I)I"⟩, 11), (⟨"ProvenRows$Plans", "readName", "()V"⟩, 11), (⟨"ProvenRows$Plans", "readFigures", "()V"⟩, 11), (⟨"ProvenRows$Plans", "readAct", "(I)LProvenRows$Act;"⟩, 11), (⟨"ProvenRows$Plans", "wordOfToken", "()I"⟩, 11), (⟨"ProvenRows$Plans", "isTokenText", "(Ljava/lang/String;)Z"⟩, 11), (⟨"ProvenRows$Plans", "readNumber", "(II)V"⟩, 11), (⟨"ProvenRows$Plans", "isAsTold", "(III)Z"⟩, 11), (⟨"ProvenRows$Plans", "actOf", "(I)LProvenRows$Act;"⟩, 11), (⟨"ProvenRows$Prover", "hideAll", "()V"⟩, 5), (⟨"ProvenRows$Prover", "show", "(II)V"⟩, 5)]
theorem lw_r1 : ∀ q ∈ lw_privs_1, lw_okq q := List.forall_mem_cons.mpr ⟨lw_p0, List.forall_mem_cons.mpr ⟨lw_p1, List.forall_mem_cons.mpr ⟨lw_p2, List.forall_mem_cons.mpr ⟨lw_p3, List.forall_mem_cons.mpr ⟨lw_p4, List.forall_mem_cons.mpr ⟨lw_p5, List.forall_mem_cons.mpr ⟨lw_p6, List.forall_mem_cons.mpr ⟨lw_p7, List.forall_mem_cons.mpr ⟨lw_p8, List.forall_mem_cons.mpr ⟨lw_p9, List.forall_mem_cons.mpr ⟨lw_p10, List.forall_mem_cons.mpr ⟨lw_p11, List.forall_mem_cons.mpr ⟨lw_p12, List.forall_mem_cons.mpr ⟨lw_p13, List.forall_mem_cons.mpr ⟨lw_p14, List.forall_mem_cons.mpr ⟨lw_p15, fun _ h => absurd h List.not_mem_nil⟩⟩⟩⟩⟩⟩⟩⟩⟩⟩⟩⟩⟩⟩⟩⟩
theorem lw_p16 : lw_okq (⟨"ProvenRows$Prover", "tellShown", "(LProvenRows$Table;)V"⟩, 5) := ⟨⟨by decide +kernel, by decide +kernel⟩, List.mem_of_getElem? (i := 76) (by decide +kernel), List.mem_of_getElem? (i := 709) (by decide +kernel), List.mem_of_getElem? (i := 710) (by decide +kernel)⟩
theorem lw_p17 : lw_okq (⟨"ProvenRows$Prover", "hasShown", "(II)Z"⟩, 5) := ⟨⟨by decide +kernel, by decide +kernel⟩, List.mem_of_getElem? (i := 76) (by decide +kernel), List.mem_of_getElem? (i := 725) (by decide +kernel), List.mem_of_getElem? (i := 726) (by decide +kernel)⟩
theorem lw_p18 : lw_okq (⟨"ProvenRows$Prover", "tellTree", "(LProvenRows$Table;IZ)V"⟩, 5) := ⟨⟨by decide +kernel, by decide +kernel⟩, List.mem_of_getElem? (i := 76) (by decide +kernel), List.mem_of_getElem? (i := 729) (by decide +kernel), List.mem_of_getElem? (i := 730) (by decide +kernel)⟩
theorem lw_p19 : lw_okq (⟨"ProvenRows$Prover", "tellRange", "(LProvenRows$Table;II)V"⟩, 5) := ⟨⟨by decide +kernel, by decide +kernel⟩, List.mem_of_getElem? (i := 76) (by decide +kernel), List.mem_of_getElem? (i := 745) (by decide +kernel), List.mem_of_getElem? (i := 746) (by decide +kernel)⟩
theorem lw_p20 : lw_okq (⟨"ProvenRows$Prover", "gatherEnds", "(LProvenRows$Rows;II)I"⟩, 5) := ⟨⟨by decide +kernel, by decide +kernel⟩, List.mem_of_getElem? (i := 76) (by decide +kernel), List.mem_of_getElem? (i := 774) (by decide +kernel), List.mem_of_getElem? (i := 775) (by decide +kernel)⟩
theorem lw_p21 : lw_okq (⟨"ProvenRows$Checker", "proofsOf", "(LProvenRows$Act;)I"⟩, 14) := ⟨⟨by decide +kernel, by decide +kernel⟩, List.mem_of_getElem? (i := 131) (by decide +kernel), List.mem_of_getElem? (i := 845) (by decide +kernel), List.mem_of_getElem? (i := 846) (by decide +kernel)⟩
theorem lw_p22 : lw_okq (⟨"ProvenRows$Checker", "readProof", "(I)V"⟩, 14) := ⟨⟨by decide +kernel, by decide +kernel⟩, List.mem_of_getElem? (i := 131) (by decide +kernel), List.mem_of_getElem? (i := 851) (by decide +kernel), List.mem_of_getElem? (i := 852) (by decide +kernel)⟩
theorem lw_p23 : lw_okq (⟨"ProvenRows$Checker", "next", "(II)I"⟩, 14) := ⟨⟨by decide +kernel, by decide +kernel⟩, List.mem_of_getElem? (i := 131) (by decide +kernel), List.mem_of_getElem? (i := 855) (by decide +kernel), List.mem_of_getElem? (i := 856) (by decide +kernel)⟩
theorem lw_p24 : lw_okq (⟨"ProvenRows$Checker", "beginTree", "()V"⟩, 14) := ⟨⟨by decide +kernel, by decide +kernel⟩, List.mem_of_getElem? (i := 131) (by decide +kernel), List.mem_of_getElem? (i := 861) (by decide +kernel), List.mem_of_getElem? (i := 862) (by decide +kernel)⟩
theorem lw_p25 : lw_okq (⟨"ProvenRows$Checker", "readTree", "(I)I"⟩, 14) := ⟨⟨by decide +kernel, by decide +kernel⟩, List.mem_of_getElem? (i := 131) (by decide +kernel), List.mem_of_getElem? (i := 866) (by decide +kernel), List.mem_of_getElem? (i := 867) (by decide +kernel)⟩
theorem lw_p26 : lw_okq (⟨"ProvenRows$Checker", "readLeaf", "(I)V"⟩, 14) := ⟨⟨by decide +kernel, by decide +kernel⟩, List.mem_of_getElem? (i := 131) (by decide +kernel), List.mem_of_getElem? (i := 872) (by decide +kernel), List.mem_of_getElem? (i := 873) (by decide +kernel)⟩
theorem lw_p27 : lw_okq (⟨"ProvenRows$Checker", "readHidden", "(I)V"⟩, 14) := ⟨⟨by decide +kernel, by decide +kernel⟩, List.mem_of_getElem? (i := 131) (by decide +kernel), List.mem_of_getElem? (i := 878) (by decide +kernel), List.mem_of_getElem? (i := 879) (by decide +kernel)⟩
theorem lw_p28 : lw_okq (⟨"ProvenRows$Checker", "hold", "(LProvenRows$Act;I)V"⟩, 14) := ⟨⟨by decide +kernel, by decide +kernel⟩, List.mem_of_getElem? (i := 131) (by decide +kernel), List.mem_of_getElem? (i := 887) (by decide +kernel), List.mem_of_getElem? (i := 888) (by decide +kernel)⟩
theorem lw_p29 : lw_okq (⟨"ProvenRows$Checker", "lastBelow", "(I)I"⟩, 14) := ⟨⟨by decide +kernel, by decide +kernel⟩, List.mem_of_getElem? (i := 131) (by decide +kernel), List.mem_of_getElem? (i := 892) (by decide +kernel), List.mem_of_getElem? (i := 893) (by decide +kernel)⟩
theorem lw_p30 : lw_okq (⟨"ProvenRows$Checker", "firstAbove", "(I)I"⟩, 14) := ⟨⟨by decide +kernel, by decide +kernel⟩, List.mem_of_getElem? (i := 131) (by decide +kernel), List.mem_of_getElem? (i := 897) (by decide +kernel), List.mem_of_getElem? (i := 898) (by decide +kernel)⟩
theorem lw_p31 : lw_okq (⟨"ProvenRows$Checker", "isEnough", "(III)Z"⟩, 14) := ⟨⟨by decide +kernel, by decide +kernel⟩, List.mem_of_getElem? (i := 131) (by decide +kernel), List.mem_of_getElem? (i := 901) (by decide +kernel), List.mem_of_getElem? (i := 902) (by decide +kernel)⟩
def lw_privs_2 : List (MethodName × Nat) := [(⟨"ProvenRows$Prover", "tellShown", "(LProvenRows$Table;)V"⟩, 5), (⟨"ProvenRows$Prover", "hasShown", "(II)Z"⟩, 5), (⟨"ProvenRows$Prover", "tellTree", "(LProvenRows$Table;IZ)V"⟩, 5), (⟨"ProvenRows$Prover", "tellRange", "(LProvenRows$Table;II)V"⟩, 5), (⟨"ProvenRows$Prover", "gatherEnds", "(LProvenRows$Rows;II)I"⟩, 5), (⟨"ProvenRows$Checker", "proofsOf", "(LProvenRows$Act;)I"⟩, 14), (⟨"ProvenRows$Checker", "readProof", "(I)V"⟩, 14), (⟨"ProvenRows$Checker", "next", "(II)I"⟩, 14), (⟨"ProvenRows$Checker", "beginTree", "()V"⟩, 14), (⟨"ProvenRows$Checker", "readTree", "(I)I"⟩, 14), (⟨"ProvenRows$Checker", "readLeaf", "(I)V"⟩, 14), (⟨"ProvenRows$Checker", "readHidden", "(I)V"⟩, 14), (⟨"ProvenRows$Checker", "hold", "(LProvenRows$Act;I)V"⟩, 14), (⟨"ProvenRows$Checker", "lastBelow", "(I)I"⟩, 14), (⟨"ProvenRows$Checker", "firstAbove", "(I)I"⟩, 14), (⟨"ProvenRows$Checker", "isEnough", "(III)Z"⟩, 14)]
theorem lw_r2 : ∀ q ∈ lw_privs_2, lw_okq q := List.forall_mem_cons.mpr ⟨lw_p16, List.forall_mem_cons.mpr ⟨lw_p17, List.forall_mem_cons.mpr ⟨lw_p18, List.forall_mem_cons.mpr ⟨lw_p19, List.forall_mem_cons.mpr ⟨lw_p20, List.forall_mem_cons.mpr ⟨lw_p21, List.forall_mem_cons.mpr ⟨lw_p22, List.forall_mem_cons.mpr ⟨lw_p23, List.forall_mem_cons.mpr ⟨lw_p24, List.forall_mem_cons.mpr ⟨lw_p25, List.forall_mem_cons.mpr ⟨lw_p26, List.forall_mem_cons.mpr ⟨lw_p27, List.forall_mem_cons.mpr ⟨lw_p28, List.forall_mem_cons.mpr ⟨lw_p29, List.forall_mem_cons.mpr ⟨lw_p30, List.forall_mem_cons.mpr ⟨lw_p31, fun _ h => absurd h List.not_mem_nil⟩⟩⟩⟩⟩⟩⟩⟩⟩⟩⟩⟩⟩⟩⟩⟩
theorem lw_p32 : lw_okq (⟨"ProvenRows$Checker", "isShown", "(I)Z"⟩, 14) := ⟨⟨by decide +kernel, by decide +kernel⟩, List.mem_of_getElem? (i := 131) (by decide +kernel), List.mem_of_getElem? (i := 905) (by decide +kernel), List.mem_of_getElem? (i := 906) (by decide +kernel)⟩
theorem lw_p33 : lw_okq (⟨"ProvenRows$Checker", "takeRows", "(LProvenRows$Rows;II)V"⟩, 14) := ⟨⟨by decide +kernel, by decide +kernel⟩, List.mem_of_getElem? (i := 131) (by decide +kernel), List.mem_of_getElem? (i := 909) (by decide +kernel), List.mem_of_getElem? (i := 910) (by decide +kernel)⟩
theorem lw_p34 : lw_okq (⟨"ProvenRows$Asks", "body", "(II)I"⟩, 7) := ⟨⟨by decide +kernel, by decide +kernel⟩, List.mem_of_getElem? (i := 203) (by decide +kernel), List.mem_of_getElem? (i := 987) (by decide +kernel), List.mem_of_getElem? (i := 988) (by decide +kernel)⟩
theorem lw_p35 : lw_okq (⟨"ProvenRows$Asks", "leave", "(I)V"⟩, 7) := ⟨⟨by decide +kernel, by decide +kernel⟩, List.mem_of_getElem? (i := 203) (by decide +kernel), List.mem_of_getElem? (i := 991) (by decide +kernel), List.mem_of_getElem? (i := 992) (by decide +kernel)⟩
theorem lw_p36 : lw_okq (⟨"ProvenRows", "sheetsThere", "()I"⟩, 10) := ⟨⟨by decide +kernel, by decide +kernel⟩, List.mem_of_getElem? (i := 21) (by decide +kernel), List.mem_of_getElem? (i := 1014) (by decide +kernel), List.mem_of_getElem? (i := 1015) (by decide +kernel)⟩
theorem lw_p37 : lw_okq (⟨"ProvenRowsModel", "finding", "(I)I"⟩, 66) := ⟨⟨by decide +kernel, by decide +kernel⟩, List.mem_of_getElem? (i := 1028) (by decide +kernel), List.mem_of_getElem? (i := 1246) (by decide +kernel), List.mem_of_getElem? (i := 1247) (by decide +kernel)⟩
theorem lw_p38 : lw_okq (⟨"ProvenRowsModel", "placeOf", "(II)I"⟩, 66) := ⟨⟨by decide +kernel, by decide +kernel⟩, List.mem_of_getElem? (i := 1028) (by decide +kernel), List.mem_of_getElem? (i := 1274) (by decide +kernel), List.mem_of_getElem? (i := 1275) (by decide +kernel)⟩
theorem lw_p39 : lw_okq (⟨"ProvenRowsModel", "hasKey", "(II)Z"⟩, 66) := ⟨⟨by decide +kernel, by decide +kernel⟩, List.mem_of_getElem? (i := 1028) (by decide +kernel), List.mem_of_getElem? (i := 1278) (by decide +kernel), List.mem_of_getElem? (i := 1279) (by decide +kernel)⟩
theorem lw_p40 : lw_okq (⟨"ProvenRowsModel", "sealOfTable", "(I)I"⟩, 66) := ⟨⟨by decide +kernel, by decide +kernel⟩, List.mem_of_getElem? (i := 1028) (by decide +kernel), List.mem_of_getElem? (i := 1293) (by decide +kernel), List.mem_of_getElem? (i := 1294) (by decide +kernel)⟩
theorem lw_p41 : lw_okq (⟨"ProvenRowsModel", "layLeaves", "(I)V"⟩, 66) := ⟨⟨by decide +kernel, by decide +kernel⟩, List.mem_of_getElem? (i := 1028) (by decide +kernel), List.mem_of_getElem? (i := 1297) (by decide +kernel), List.mem_of_getElem? (i := 1298) (by decide +kernel)⟩
theorem lw_p42 : lw_okq (⟨"ProvenRowsModel", "step", "()V"⟩, 66) := ⟨⟨by decide +kernel, by decide +kernel⟩, List.mem_of_getElem? (i := 1028) (by decide +kernel), List.mem_of_getElem? (i := 1332) (by decide +kernel), List.mem_of_getElem? (i := 1333) (by decide +kernel)⟩
theorem lw_p43 : lw_okq (⟨"ProvenRowsModel", "byteAt", "(I)I"⟩, 66) := ⟨⟨by decide +kernel, by decide +kernel⟩, List.mem_of_getElem? (i := 1028) (by decide +kernel), List.mem_of_getElem? (i := 1336) (by decide +kernel), List.mem_of_getElem? (i := 1337) (by decide +kernel)⟩
theorem lw_p44 : lw_okq (⟨"ProvenRowsModel", "readAct", "()V"⟩, 66) := ⟨⟨by decide +kernel, by decide +kernel⟩, List.mem_of_getElem? (i := 1028) (by decide +kernel), List.mem_of_getElem? (i := 1347) (by decide +kernel), List.mem_of_getElem? (i := 1348) (by decide +kernel)⟩
theorem lw_p45 : lw_okq (⟨"ProvenRowsModel", "actOfWord", "()I"⟩, 66) := ⟨⟨by decide +kernel, by decide +kernel⟩, List.mem_of_getElem? (i := 1028) (by decide +kernel), List.mem_of_getElem? (i := 1351) (by decide +kernel), List.mem_of_getElem? (i := 1352) (by decide +kernel)⟩
theorem lw_p46 : lw_okq (⟨"ProvenRowsModel", "word", "()J"⟩, 66) := ⟨⟨by decide +kernel, by decide +kernel⟩, List.mem_of_getElem? (i := 1028) (by decide +kernel), List.mem_of_getElem? (i := 1355) (by decide +kernel), List.mem_of_getElem? (i := 1356) (by decide +kernel)⟩
theorem lw_p47 : lw_okq (⟨"ProvenRowsModel", "bad", "(I)V"⟩, 66) := ⟨⟨by decide +kernel, by decide +kernel⟩, List.mem_of_getElem? (i := 1028) (by decide +kernel), List.mem_of_getElem? (i := 1366) (by decide +kernel), List.mem_of_getElem? (i := 1367) (by decide +kernel)⟩
def lw_privs_3 : List (MethodName × Nat) := [(⟨"ProvenRows$Checker", "isShown", "(I)Z"⟩, 14), (⟨"ProvenRows$Checker", "takeRows", "(LProvenRows$Rows;II)V"⟩, 14), (⟨"ProvenRows$Asks", "body", "(II)I"⟩, 7), (⟨"ProvenRows$Asks", "leave", "(I)V"⟩, 7), (⟨"ProvenRows", "sheetsThere", "()I"⟩, 10), (⟨"ProvenRowsModel", "finding", "(I)I"⟩, 66), (⟨"ProvenRowsModel", "placeOf", "(II)I"⟩, 66), (⟨"ProvenRowsModel", "hasKey", "(II)Z"⟩, 66), (⟨"ProvenRowsModel", "sealOfTable", "(I)I"⟩, 66), (⟨"ProvenRowsModel", "layLeaves", "(I)V"⟩, 66), (⟨"ProvenRowsModel", "step", "()V"⟩, 66), (⟨"ProvenRowsModel", "byteAt", "(I)I"⟩, 66), (⟨"ProvenRowsModel", "readAct", "()V"⟩, 66), (⟨"ProvenRowsModel", "actOfWord", "()I"⟩, 66), (⟨"ProvenRowsModel", "word", "()J"⟩, 66), (⟨"ProvenRowsModel", "bad", "(I)V"⟩, 66)]
theorem lw_r3 : ∀ q ∈ lw_privs_3, lw_okq q := List.forall_mem_cons.mpr ⟨lw_p32, List.forall_mem_cons.mpr ⟨lw_p33, List.forall_mem_cons.mpr ⟨lw_p34, List.forall_mem_cons.mpr ⟨lw_p35, List.forall_mem_cons.mpr ⟨lw_p36, List.forall_mem_cons.mpr ⟨lw_p37, List.forall_mem_cons.mpr ⟨lw_p38, List.forall_mem_cons.mpr ⟨lw_p39, List.forall_mem_cons.mpr ⟨lw_p40, List.forall_mem_cons.mpr ⟨lw_p41, List.forall_mem_cons.mpr ⟨lw_p42, List.forall_mem_cons.mpr ⟨lw_p43, List.forall_mem_cons.mpr ⟨lw_p44, List.forall_mem_cons.mpr ⟨lw_p45, List.forall_mem_cons.mpr ⟨lw_p46, List.forall_mem_cons.mpr ⟨lw_p47, fun _ h => absurd h List.not_mem_nil⟩⟩⟩⟩⟩⟩⟩⟩⟩⟩⟩⟩⟩⟩⟩⟩
theorem lw_p48 : lw_okq (⟨"ProvenRowsModel", "must", "(Z)V"⟩, 66) := ⟨⟨by decide +kernel, by decide +kernel⟩, List.mem_of_getElem? (i := 1028) (by decide +kernel), List.mem_of_getElem? (i := 1370) (by decide +kernel), List.mem_of_getElem? (i := 1371) (by decide +kernel)⟩
theorem lw_p49 : lw_okq (⟨"ProvenRowsModel", "numberIn", "(II)I"⟩, 66) := ⟨⟨by decide +kernel, by decide +kernel⟩, List.mem_of_getElem? (i := 1028) (by decide +kernel), List.mem_of_getElem? (i := 1374) (by decide +kernel), List.mem_of_getElem? (i := 1375) (by decide +kernel)⟩
theorem lw_p50 : lw_okq (⟨"ProvenRowsModel", "isAct", "(I)Z"⟩, 66) := ⟨⟨by decide +kernel, by decide +kernel⟩, List.mem_of_getElem? (i := 1028) (by decide +kernel), List.mem_of_getElem? (i := 1387) (by decide +kernel), List.mem_of_getElem? (i := 1388) (by decide +kernel)⟩
theorem lw_p51 : lw_okq (⟨"ProvenRowsModel", "tellAct", "(I)V"⟩, 66) := ⟨⟨by decide +kernel, by decide +kernel⟩, List.mem_of_getElem? (i := 1028) (by decide +kernel), List.mem_of_getElem? (i := 1391) (by decide +kernel), List.mem_of_getElem? (i := 1392) (by decide +kernel)⟩
theorem lw_p52 : lw_okq (⟨"ProvenRowsModel", "tellAll", "(IIIII)V"⟩, 66) := ⟨⟨by decide +kernel, by decide +kernel⟩, List.mem_of_getElem? (i := 1028) (by decide +kernel), List.mem_of_getElem? (i := 1395) (by decide +kernel), List.mem_of_getElem? (i := 1396) (by decide +kernel)⟩
theorem lw_p53 : lw_okq (⟨"ProvenRowsModel", "tellProof", "(IIII)V"⟩, 66) := ⟨⟨by decide +kernel, by decide +kernel⟩, List.mem_of_getElem? (i := 1028) (by decide +kernel), List.mem_of_getElem? (i := 1399) (by decide +kernel), List.mem_of_getElem? (i := 1400) (by decide +kernel)⟩
theorem lw_p54 : lw_okq (⟨"ProvenRowsModel", "ahead", "(I)I"⟩, 66) := ⟨⟨by decide +kernel, by decide +kernel⟩, List.mem_of_getElem? (i := 1028) (by decide +kernel), List.mem_of_getElem? (i := 1403) (by decide +kernel), List.mem_of_getElem? (i := 1404) (by decide +kernel)⟩
theorem lw_p55 : lw_okq (⟨"ProvenRowsModel", "behind", "(I)I"⟩, 66) := ⟨⟨by decide +kernel, by decide +kernel⟩, List.mem_of_getElem? (i := 1028) (by decide +kernel), List.mem_of_getElem? (i := 1407) (by decide +kernel), List.mem_of_getElem? (i := 1408) (by decide +kernel)⟩
theorem lw_p56 : lw_okq (⟨"ProvenRowsModel", "tellTree", "()V"⟩, 66) := ⟨⟨by decide +kernel, by decide +kernel⟩, List.mem_of_getElem? (i := 1028) (by decide +kernel), List.mem_of_getElem? (i := 1411) (by decide +kernel), List.mem_of_getElem? (i := 1412) (by decide +kernel)⟩
theorem lw_p57 : lw_okq (⟨"ProvenRowsModel", "tell", "(I)V"⟩, 66) := ⟨⟨by decide +kernel, by decide +kernel⟩, List.mem_of_getElem? (i := 1028) (by decide +kernel), List.mem_of_getElem? (i := 1415) (by decide +kernel), List.mem_of_getElem? (i := 1416) (by decide +kernel)⟩
theorem lw_p58 : lw_okq (⟨"ProvenRowsModel", "isSome", "(II)Z"⟩, 66) := ⟨⟨by decide +kernel, by decide +kernel⟩, List.mem_of_getElem? (i := 1028) (by decide +kernel), List.mem_of_getElem? (i := 1419) (by decide +kernel), List.mem_of_getElem? (i := 1420) (by decide +kernel)⟩
theorem lw_p59 : lw_okq (⟨"ProvenRowsModel", "answerAct", "(I)V"⟩, 66) := ⟨⟨by decide +kernel, by decide +kernel⟩, List.mem_of_getElem? (i := 1028) (by decide +kernel), List.mem_of_getElem? (i := 1435) (by decide +kernel), List.mem_of_getElem? (i := 1436) (by decide +kernel)⟩
theorem lw_p60 : lw_okq (⟨"ProvenRowsModel", "say", "(I)V"⟩, 66) := ⟨⟨by decide +kernel, by decide +kernel⟩, List.mem_of_getElem? (i := 1028) (by decide +kernel), List.mem_of_getElem? (i := 1439) (by decide +kernel), List.mem_of_getElem? (i := 1440) (by decide +kernel)⟩
theorem lw_p61 : lw_okq (⟨"ProvenRowsModel", "isTaken", "(II)Z"⟩, 66) := ⟨⟨by decide +kernel, by decide +kernel⟩, List.mem_of_getElem? (i := 1028) (by decide +kernel), List.mem_of_getElem? (i := 1448) (by decide +kernel), List.mem_of_getElem? (i := 1449) (by decide +kernel)⟩
theorem lw_p62 : lw_okq (⟨"ProvenRowsModel", "readProof", "(IIIII)V"⟩, 66) := ⟨⟨by decide +kernel, by decide +kernel⟩, List.mem_of_getElem? (i := 1028) (by decide +kernel), List.mem_of_getElem? (i := 1452) (by decide +kernel), List.mem_of_getElem? (i := 1453) (by decide +kernel)⟩
theorem lw_p63 : lw_okq (⟨"ProvenRowsModel", "next", "(II)I"⟩, 66) := ⟨⟨by decide +kernel, by decide +kernel⟩, List.mem_of_getElem? (i := 1028) (by decide +kernel), List.mem_of_getElem? (i := 1456) (by decide +kernel), List.mem_of_getElem? (i := 1457) (by decide +kernel)⟩
def lw_privs_4 : List (MethodName × Nat) := [(⟨"ProvenRowsModel", "must", "(Z)V"⟩, 66), (⟨"ProvenRowsModel", "numberIn", "(II)I"⟩, 66), (⟨"ProvenRowsModel", "isAct", "(I)Z"⟩, 66), (⟨"ProvenRowsModel", "tellAct", "(I)V"⟩, 66), (⟨"ProvenRowsModel", "tellAll", "(IIIII)V"⟩, 66), (⟨"ProvenRowsModel", "tellProof", "(IIII)V"⟩, 66), (⟨"ProvenRowsModel", "ahead", "(I)I"⟩, 66), (⟨"ProvenRowsModel", "behind", "(I)I"⟩, 66), (⟨"ProvenRowsModel", "tellTree", "()V"⟩, 66), (⟨"ProvenRowsModel", "tell", "(I)V"⟩, 66), (⟨"ProvenRowsModel", "isSome", "(II)Z"⟩, 66), (⟨"ProvenRowsModel", "answerAct", "(I)V"⟩, 66), (⟨"ProvenRowsModel", "say", "(I)V"⟩, 66), (⟨"ProvenRowsModel", "isTaken", "(II)Z"⟩, 66), (⟨"ProvenRowsModel", "readProof", "(IIIII)V"⟩, 66), (⟨"ProvenRowsModel", "next", "(II)I"⟩, 66)]
theorem lw_r4 : ∀ q ∈ lw_privs_4, lw_okq q := List.forall_mem_cons.mpr ⟨lw_p48, List.forall_mem_cons.mpr ⟨lw_p49, List.forall_mem_cons.mpr ⟨lw_p50, List.forall_mem_cons.mpr ⟨lw_p51, List.forall_mem_cons.mpr ⟨lw_p52, List.forall_mem_cons.mpr ⟨lw_p53, List.forall_mem_cons.mpr ⟨lw_p54, List.forall_mem_cons.mpr ⟨lw_p55, List.forall_mem_cons.mpr ⟨lw_p56, List.forall_mem_cons.mpr ⟨lw_p57, List.forall_mem_cons.mpr ⟨lw_p58, List.forall_mem_cons.mpr ⟨lw_p59, List.forall_mem_cons.mpr ⟨lw_p60, List.forall_mem_cons.mpr ⟨lw_p61, List.forall_mem_cons.mpr ⟨lw_p62, List.forall_mem_cons.mpr ⟨lw_p63, fun _ h => absurd h List.not_mem_nil⟩⟩⟩⟩⟩⟩⟩⟩⟩⟩⟩⟩⟩⟩⟩⟩
theorem lw_p64 : lw_okq (⟨"ProvenRowsModel", "isWrong", "(II)V"⟩, 66) := ⟨⟨by decide +kernel, by decide +kernel⟩, List.mem_of_getElem? (i := 1028) (by decide +kernel), List.mem_of_getElem? (i := 1460) (by decide +kernel), List.mem_of_getElem? (i := 1461) (by decide +kernel)⟩
theorem lw_p65 : lw_okq (⟨"ProvenRowsModel", "readTree", "()V"⟩, 66) := ⟨⟨by decide +kernel, by decide +kernel⟩, List.mem_of_getElem? (i := 1028) (by decide +kernel), List.mem_of_getElem? (i := 1464) (by decide +kernel), List.mem_of_getElem? (i := 1465) (by decide +kernel)⟩
theorem lw_p66 : lw_okq (⟨"ProvenRowsModel", "readLeaf", "(II)V"⟩, 66) := ⟨⟨by decide +kernel, by decide +kernel⟩, List.mem_of_getElem? (i := 1028) (by decide +kernel), List.mem_of_getElem? (i := 1469) (by decide +kernel), List.mem_of_getElem? (i := 1470) (by decide +kernel)⟩
theorem lw_p67 : lw_okq (⟨"ProvenRowsModel", "isEnough", "(III)Z"⟩, 66) := ⟨⟨by decide +kernel, by decide +kernel⟩, List.mem_of_getElem? (i := 1028) (by decide +kernel), List.mem_of_getElem? (i := 1473) (by decide +kernel), List.mem_of_getElem? (i := 1474) (by decide +kernel)⟩
theorem lw_p68 : lw_okq (⟨"ProvenRowsModel", "areShown", "(II)Z"⟩, 66) := ⟨⟨by decide +kernel, by decide +kernel⟩, List.mem_of_getElem? (i := 1028) (by decide +kernel), List.mem_of_getElem? (i := 1477) (by decide +kernel), List.mem_of_getElem? (i := 1478) (by decide +kernel)⟩
theorem lw_p69 : lw_okq (⟨"ProvenRowsModel", "valueShown", "(I)I"⟩, 66) := ⟨⟨by decide +kernel, by decide +kernel⟩, List.mem_of_getElem? (i := 1028) (by decide +kernel), List.mem_of_getElem? (i := 1481) (by decide +kernel), List.mem_of_getElem? (i := 1482) (by decide +kernel)⟩
theorem lw_p70 : lw_okq (⟨"ProvenRowsModel", "sayRow", "(III)V"⟩, 66) := ⟨⟨by decide +kernel, by decide +kernel⟩, List.mem_of_getElem? (i := 1028) (by decide +kernel), List.mem_of_getElem? (i := 1485) (by decide +kernel), List.mem_of_getElem? (i := 1486) (by decide +kernel)⟩
theorem lw_p71 : lw_okq (⟨"ProvenRowsModel", "kindOf", "(I)I"⟩, 66) := ⟨⟨by decide +kernel, by decide +kernel⟩, List.mem_of_getElem? (i := 1028) (by decide +kernel), List.mem_of_getElem? (i := 1507) (by decide +kernel), List.mem_of_getElem? (i := 1508) (by decide +kernel)⟩
theorem lw_p72 : lw_okq (⟨"ProvenRowsModel", "sizeOf", "(I)I"⟩, 66) := ⟨⟨by decide +kernel, by decide +kernel⟩, List.mem_of_getElem? (i := 1028) (by decide +kernel), List.mem_of_getElem? (i := 1524) (by decide +kernel), List.mem_of_getElem? (i := 1525) (by decide +kernel)⟩
theorem lw_p73 : lw_okq (⟨"ProvenRowsModel", "began", "(I)V"⟩, 66) := ⟨⟨by decide +kernel, by decide +kernel⟩, List.mem_of_getElem? (i := 1028) (by decide +kernel), List.mem_of_getElem? (i := 1528) (by decide +kernel), List.mem_of_getElem? (i := 1529) (by decide +kernel)⟩
theorem lw_p74 : lw_okq (⟨"ProvenRowsModel", "markOf", "(I)I"⟩, 66) := ⟨⟨by decide +kernel, by decide +kernel⟩, List.mem_of_getElem? (i := 1028) (by decide +kernel), List.mem_of_getElem? (i := 1532) (by decide +kernel), List.mem_of_getElem? (i := 1533) (by decide +kernel)⟩
def lw_privs_5 : List (MethodName × Nat) := [(⟨"ProvenRowsModel", "isWrong", "(II)V"⟩, 66), (⟨"ProvenRowsModel", "readTree", "()V"⟩, 66), (⟨"ProvenRowsModel", "readLeaf", "(II)V"⟩, 66), (⟨"ProvenRowsModel", "isEnough", "(III)Z"⟩, 66), (⟨"ProvenRowsModel", "areShown", "(II)Z"⟩, 66), (⟨"ProvenRowsModel", "valueShown", "(I)I"⟩, 66), (⟨"ProvenRowsModel", "sayRow", "(III)V"⟩, 66), (⟨"ProvenRowsModel", "kindOf", "(I)I"⟩, 66), (⟨"ProvenRowsModel", "sizeOf", "(I)I"⟩, 66), (⟨"ProvenRowsModel", "began", "(I)V"⟩, 66), (⟨"ProvenRowsModel", "markOf", "(I)I"⟩, 66)]
theorem lw_r5 : ∀ q ∈ lw_privs_5, lw_okq q := List.forall_mem_cons.mpr ⟨lw_p64, List.forall_mem_cons.mpr ⟨lw_p65, List.forall_mem_cons.mpr ⟨lw_p66, List.forall_mem_cons.mpr ⟨lw_p67, List.forall_mem_cons.mpr ⟨lw_p68, List.forall_mem_cons.mpr ⟨lw_p69, List.forall_mem_cons.mpr ⟨lw_p70, List.forall_mem_cons.mpr ⟨lw_p71, List.forall_mem_cons.mpr ⟨lw_p72, List.forall_mem_cons.mpr ⟨lw_p73, List.forall_mem_cons.mpr ⟨lw_p74, fun _ h => absurd h List.not_mem_nil⟩⟩⟩⟩⟩⟩⟩⟩⟩⟩⟩
def lw_privs : List (MethodName × Nat) := lw_privs_1 ++ (lw_privs_2 ++ (lw_privs_3 ++ (lw_privs_4 ++ (lw_privs_5))))
def lw_tbl : List Cond := k2_sels lw_privs ++ tables_1
theorem lw_privs_ok : ∀ q ∈ lw_privs, lw_okq q := by
  show ∀ q ∈ lw_privs_1 ++ (lw_privs_2 ++ (lw_privs_3 ++ (lw_privs_4 ++ (lw_privs_5)))), lw_okq q
  exact List.forall_mem_append.mpr ⟨lw_r1, List.forall_mem_append.mpr ⟨lw_r2, List.forall_mem_append.mpr ⟨lw_r3, List.forall_mem_append.mpr ⟨lw_r4, lw_r5⟩⟩⟩⟩
-- ===== end of PART A; then your names; then what follows =====
/-! ===== BEGIN words of one list among another's, by their places ===== -/
theorem goodIn_r {big : List Cond} (ws : List Cond) (ps : List Nat) (hp : ws = ps.filterMap (fun i => big[i]?)) (h : ws.all goodWord = true) : GoodIn big ws := by
  intro w hw
  have h1 := List.all_eq_true.mp h w hw
  rw [hp] at hw
  obtain ⟨i, -, hi⟩ := List.mem_filterMap.mp hw
  have hm : w ∈ big := by first | exact List.mem_of_getElem? hi | exact List.getElem?_mem hi
  exact ⟨hm, good_of_word h1⟩
theorem goodIn_app {big a b : List Cond} (ha : GoodIn big a) (hb : GoodIn big b) : GoodIn big (a ++ b) := fun w h => (List.mem_append.mp h).elim (ha w) (hb w)
theorem goodIn_ca {big a b : List Cond} {c : Cond} (ha : GoodIn big (c :: a)) (hb : GoodIn big b) : GoodIn big (c :: (a ++ b)) := fun w h => (List.mem_cons.mp h).elim (fun e => ha w (List.mem_cons.mpr (Or.inl e))) (fun h => (List.mem_append.mp h).elim (fun h => ha w (List.mem_cons.mpr (Or.inr h))) (hb w))
theorem goodIn_sub {big ws : List Cond} (hm : ∀ w ∈ ws, w ∈ big) (h : ws.all goodWord = true) : GoodIn big ws := fun w hw => ⟨hm w hw, good_of_word (List.all_eq_true.mp h w hw)⟩
/-! ===== END ===== -/

/-! ===== BEGIN printed: names, fields, word lists, decode rows ===== -/
def RX0 : String := "ProvenRows$Act"
def TX0 : u_T := fun k => match k with
  | 0 => ("ProvenRows$Act", "word", "I", true)
  | 1 => ("ProvenRows$Act", "a", "I", true)
  | 2 => ("ProvenRows$Act", "b", "I", true)
  | 3 => ("ProvenRows$Act", "low", "I", true)
  | 4 => ("ProvenRows$Act", "high", "I", true)
  | _ => ("ProvenRows$Act", "k", "I", true)
def tyX0 : Nat → FieldType := fun k => match k with
  | 0 => .int
  | 1 => .int
  | 2 => .int
  | 3 => .int
  | 4 => .int
  | _ => .int
abbrev wsX00 : List Cond := u_ws RX0 TX0 6
theorem nmX0 : ∀ a, a < 6 → ∀ b, b < 6 → a ≠ b → (TX0 a).2.1 ≠ (TX0 b).2.1 := by decide +kernel
theorem tyX0_ok : ∀ k, k < 6 → parseFieldDescriptor (TX0 k).2.2.1 = some (tyX0 k) := by decide +kernel
abbrev cX0_init : ByteArray := prog_2_method_1_code
def yX0_init : MethodName := ⟨RX0, "<init>", "(IIIIII)V"⟩
abbrev cX0_ownKind : ByteArray := prog_2_method_2_code
def yX0_ownKind : MethodName := ⟨RX0, "ownKind", "()I"⟩
abbrev cX0_isOf : ByteArray := prog_2_method_3_code
def yX0_isOf : MethodName := ⟨RX0, "isOf", "(I)Z"⟩
abbrev cX0_hasProbes : ByteArray := prog_2_method_4_code
def yX0_hasProbes : MethodName := ⟨RX0, "hasProbes", "()Z"⟩
abbrev cX0_isPair : ByteArray := prog_2_method_5_code
def yX0_isPair : MethodName := ⟨RX0, "isPair", "()Z"⟩
abbrev cX0_answerInto : ByteArray := prog_2_method_6_code
def yX0_answerInto : MethodName := ⟨RX0, "answerInto", "(LProvenRows$Numbers;LProvenRows$Rows;LProvenRows$Rows;I)V"⟩
abbrev cX0_matchesInto : ByteArray := prog_2_method_7_code
def yX0_matchesInto : MethodName := ⟨RX0, "matchesInto", "(LProvenRows$Numbers;LProvenRows$Rows;LProvenRows$Rows;)V"⟩
abbrev cX0_missesInto : ByteArray := prog_2_method_8_code
def yX0_missesInto : MethodName := ⟨RX0, "missesInto", "(LProvenRows$Numbers;LProvenRows$Rows;LProvenRows$Rows;)V"⟩
def RX1 : String := "ProvenRows$Asks"
def TX1 : u_T := fun k => match k with
  | 0 => ("ProvenRows$Asks", "bodies", "[I", true)
  | 1 => ("ProvenRows$Asks", "many", "I", false)
  | 2 => ("ProvenRows$Asks", "number", "I", false)
  | 3 => ("ProvenRows$Asks", "kindOfAct", "I", false)
  | 4 => ("ProvenRows$Asks", "words", "I", false)
  | 5 => ("ProvenRows$Asks", "rowsOfA", "I", false)
  | _ => ("ProvenRows$Asks", "rowsOfB", "I", false)
def tyX1 : Nat → FieldType := fun k => match k with
  | 0 => .array .int
  | 1 => .int
  | 2 => .int
  | 3 => .int
  | 4 => .int
  | 5 => .int
  | _ => .int
abbrev wsX10 : List Cond := u_ws RX1 TX1 7
theorem nmX1 : ∀ a, a < 7 → ∀ b, b < 7 → a ≠ b → (TX1 a).2.1 ≠ (TX1 b).2.1 := by decide +kernel
theorem tyX1_ok : ∀ k, k < 7 → parseFieldDescriptor (TX1 k).2.2.1 = some (tyX1 k) := by decide +kernel
abbrev cX1_init : ByteArray := prog_3_method_1_code
def yX1_init : MethodName := ⟨RX1, "<init>", "()V"⟩
abbrev cX1_begin : ByteArray := prog_3_method_2_code
def yX1_begin : MethodName := ⟨RX1, "begin", "(III)V"⟩
abbrev cX1_beginRows : ByteArray := prog_3_method_3_code
def yX1_beginRows : MethodName := ⟨RX1, "beginRows", "(II)V"⟩
abbrev cX1_sizeOfAct : ByteArray := prog_3_method_4_code
def yX1_sizeOfAct : MethodName := ⟨RX1, "sizeOfAct", "()I"⟩
abbrev cX1_markOfAct : ByteArray := prog_3_method_5_code
def yX1_markOfAct : MethodName := ⟨RX1, "markOfAct", "()I"⟩
abbrev cX1_traced : ByteArray := prog_3_method_6_code
def yX1_traced : MethodName := ⟨RX1, "traced", "(I)I"⟩
abbrev cX1_body : ByteArray := prog_3_method_7_code
def yX1_body : MethodName := ⟨RX1, "body", "(II)I"⟩
abbrev cX1_leave : ByteArray := prog_3_method_8_code
def yX1_leave : MethodName := ⟨RX1, "leave", "(I)V"⟩
def RX2 : String := "ProvenRows$Checker"
def TX2 : u_T := fun k => match k with
  | 0 => ("ProvenRows$Checker", "given", "LProvenRows$Numbers;", true)
  | 1 => ("ProvenRows$Checker", "at", "I", false)
  | 2 => ("ProvenRows$Checker", "why", "I", false)
  | 3 => ("ProvenRows$Checker", "tree", "LProvenRows$Tree;", true)
  | 4 => ("ProvenRows$Checker", "shown", "[Z", true)
  | 5 => ("ProvenRows$Checker", "opened", "[Z", true)
  | 6 => ("ProvenRows$Checker", "keys", "[I", true)
  | 7 => ("ProvenRows$Checker", "amounts", "[I", true)
  | 8 => ("ProvenRows$Checker", "leaves", "I", false)
  | 9 => ("ProvenRows$Checker", "lastKey", "I", false)
  | 10 => ("ProvenRows$Checker", "ofA", "LProvenRows$Rows;", true)
  | 11 => ("ProvenRows$Checker", "ofB", "LProvenRows$Rows;", true)
  | 12 => ("ProvenRows$Checker", "sum", "I", false)
  | _ => ("ProvenRows$Checker", "result", "LProvenRows$Numbers;", true)
def tyX2 : Nat → FieldType := fun k => match k with
  | 0 => .object "ProvenRows$Numbers"
  | 1 => .int
  | 2 => .int
  | 3 => .object "ProvenRows$Tree"
  | 4 => .array .boolean
  | 5 => .array .boolean
  | 6 => .array .int
  | 7 => .array .int
  | 8 => .int
  | 9 => .int
  | 10 => .object "ProvenRows$Rows"
  | 11 => .object "ProvenRows$Rows"
  | 12 => .int
  | _ => .object "ProvenRows$Numbers"
abbrev wsX20 : List Cond := u_ws RX2 TX2 14
theorem nmX2 : ∀ a, a < 14 → ∀ b, b < 14 → a ≠ b → (TX2 a).2.1 ≠ (TX2 b).2.1 := by decide +kernel
theorem tyX2_ok : ∀ k, k < 14 → parseFieldDescriptor (TX2 k).2.2.1 = some (tyX2 k) := by decide +kernel
abbrev cX2_init : ByteArray := prog_4_method_1_code
def yX2_init : MethodName := ⟨RX2, "<init>", "()V"⟩
abbrev cX2_given : ByteArray := prog_4_method_2_code
def yX2_given : MethodName := ⟨RX2, "given", "()LProvenRows$Numbers;"⟩
abbrev cX2_result : ByteArray := prog_4_method_3_code
def yX2_result : MethodName := ⟨RX2, "result", "()LProvenRows$Numbers;"⟩
abbrev cX2_reason : ByteArray := prog_4_method_4_code
def yX2_reason : MethodName := ⟨RX2, "reason", "()I"⟩
abbrev cX2_wrong : ByteArray := prog_4_method_5_code
def yX2_wrong : MethodName := ⟨RX2, "wrong", "()I"⟩
abbrev cX2_takes : ByteArray := prog_4_method_6_code
def yX2_takes : MethodName := ⟨RX2, "takes", "(LProvenRows$Act;II)Z"⟩
abbrev cX2_proofsOf : ByteArray := prog_4_method_7_code
def yX2_proofsOf : MethodName := ⟨RX2, "proofsOf", "(LProvenRows$Act;)I"⟩
abbrev cX2_next : ByteArray := prog_4_method_8_code
def yX2_next : MethodName := ⟨RX2, "next", "(II)I"⟩
abbrev cX2_readProof : ByteArray := prog_4_method_9_code
def yX2_readProof : MethodName := ⟨RX2, "readProof", "(I)V"⟩
abbrev cX2_beginTree : ByteArray := prog_4_method_10_code
def yX2_beginTree : MethodName := ⟨RX2, "beginTree", "()V"⟩
abbrev cX2_readTree : ByteArray := prog_4_method_11_code
def yX2_readTree : MethodName := ⟨RX2, "readTree", "(I)I"⟩
abbrev cX2_readLeaf : ByteArray := prog_4_method_12_code
def yX2_readLeaf : MethodName := ⟨RX2, "readLeaf", "(I)V"⟩
abbrev cX2_readHidden : ByteArray := prog_4_method_13_code
def yX2_readHidden : MethodName := ⟨RX2, "readHidden", "(I)V"⟩
abbrev cX2_hold : ByteArray := prog_4_method_14_code
def yX2_hold : MethodName := ⟨RX2, "hold", "(LProvenRows$Act;I)V"⟩
abbrev cX2_lastBelow : ByteArray := prog_4_method_15_code
def yX2_lastBelow : MethodName := ⟨RX2, "lastBelow", "(I)I"⟩
abbrev cX2_firstAbove : ByteArray := prog_4_method_16_code
def yX2_firstAbove : MethodName := ⟨RX2, "firstAbove", "(I)I"⟩
abbrev cX2_isEnough : ByteArray := prog_4_method_17_code
def yX2_isEnough : MethodName := ⟨RX2, "isEnough", "(III)Z"⟩
abbrev cX2_isShown : ByteArray := prog_4_method_18_code
def yX2_isShown : MethodName := ⟨RX2, "isShown", "(I)Z"⟩
abbrev cX2_takeRows : ByteArray := prog_4_method_19_code
def yX2_takeRows : MethodName := ⟨RX2, "takeRows", "(LProvenRows$Rows;II)V"⟩
def RX3 : String := "ProvenRows$Numbers"
def TX3 : u_T := fun k => match k with
  | 0 => ("ProvenRows$Numbers", "items", "[I", true)
  | _ => ("ProvenRows$Numbers", "size", "I", false)
def tyX3 : Nat → FieldType := fun k => match k with
  | 0 => .array .int
  | _ => .int
abbrev wsX30 : List Cond := u_ws RX3 TX3 2
theorem nmX3 : ∀ a, a < 2 → ∀ b, b < 2 → a ≠ b → (TX3 a).2.1 ≠ (TX3 b).2.1 := by decide +kernel
theorem tyX3_ok : ∀ k, k < 2 → parseFieldDescriptor (TX3 k).2.2.1 = some (tyX3 k) := by decide +kernel
abbrev cX3_init : ByteArray := prog_5_method_1_code
def yX3_init : MethodName := ⟨RX3, "<init>", "(I)V"⟩
abbrev cX3_clear : ByteArray := prog_5_method_2_code
def yX3_clear : MethodName := ⟨RX3, "clear", "()V"⟩
abbrev cX3_add : ByteArray := prog_5_method_3_code
def yX3_add : MethodName := ⟨RX3, "add", "(I)V"⟩
abbrev cX3_replace : ByteArray := prog_5_method_4_code
def yX3_replace : MethodName := ⟨RX3, "replace", "(II)V"⟩
abbrev cX3_become : ByteArray := prog_5_method_5_code
def yX3_become : MethodName := ⟨RX3, "become", "(LProvenRows$Numbers;)V"⟩
abbrev cX3_size : ByteArray := prog_5_method_6_code
def yX3_size : MethodName := ⟨RX3, "size", "()I"⟩
abbrev cX3_at : ByteArray := prog_5_method_7_code
def yX3_at : MethodName := ⟨RX3, "at", "(I)I"⟩
abbrev cX3_numberOrSize : ByteArray := prog_5_method_8_code
def yX3_numberOrSize : MethodName := ⟨RX3, "numberOrSize", "(I)I"⟩
def RX4 : String := "ProvenRows$Plans"
def TX4 : u_T := fun k => match k with
  | 0 => ("ProvenRows$Plans", "tape", "[I", true)
  | 1 => ("ProvenRows$Plans", "bytes", "I", false)
  | 2 => ("ProvenRows$Plans", "acts", "[LProvenRows$Act;", true)
  | 3 => ("ProvenRows$Plans", "many", "I", false)
  | 4 => ("ProvenRows$Plans", "token", "I", false)
  | 5 => ("ProvenRows$Plans", "tokenStart", "I", false)
  | 6 => ("ProvenRows$Plans", "tokenEnd", "I", false)
  | 7 => ("ProvenRows$Plans", "tokenValue", "I", false)
  | 8 => ("ProvenRows$Plans", "numbers", "[I", true)
  | 9 => ("ProvenRows$Plans", "faultHere", "I", false)
  | _ => ("ProvenRows$Plans", "faultBefore", "I", false)
def tyX4 : Nat → FieldType := fun k => match k with
  | 0 => .array .int
  | 1 => .int
  | 2 => .array (.object "ProvenRows$Act")
  | 3 => .int
  | 4 => .int
  | 5 => .int
  | 6 => .int
  | 7 => .int
  | 8 => .array .int
  | 9 => .int
  | _ => .int
abbrev wsX40 : List Cond := u_ws RX4 TX4 11
theorem nmX4 : ∀ a, a < 11 → ∀ b, b < 11 → a ≠ b → (TX4 a).2.1 ≠ (TX4 b).2.1 := by decide +kernel
theorem tyX4_ok : ∀ k, k < 11 → parseFieldDescriptor (TX4 k).2.2.1 = some (tyX4 k) := by decide +kernel
abbrev cX4_init : ByteArray := prog_6_method_1_code
def yX4_init : MethodName := ⟨RX4, "<init>", "()V"⟩
abbrev cX4_append : ByteArray := prog_6_method_2_code
def yX4_append : MethodName := ⟨RX4, "append", "(JI)Z"⟩
abbrev cX4_bytes : ByteArray := prog_6_method_3_code
def yX4_bytes : MethodName := ⟨RX4, "bytes", "()I"⟩
abbrev cX4_acts : ByteArray := prog_6_method_4_code
def yX4_acts : MethodName := ⟨RX4, "acts", "()I"⟩
abbrev cX4_act : ByteArray := prog_6_method_5_code
def yX4_act : MethodName := ⟨RX4, "act", "(I)LProvenRows$Act;"⟩
abbrev cX4_actsOf : ByteArray := prog_6_method_6_code
def yX4_actsOf : MethodName := ⟨RX4, "actsOf", "(I)I"⟩
abbrev cX4_latestFault : ByteArray := prog_6_method_7_code
def yX4_latestFault : MethodName := ⟨RX4, "latestFault", "()I"⟩
abbrev cX4_readTape : ByteArray := prog_6_method_8_code
def yX4_readTape : MethodName := ⟨RX4, "readTape", "()I"⟩
abbrev cX4_readAct : ByteArray := prog_6_method_9_code
def yX4_readAct : MethodName := ⟨RX4, "readAct", "(I)LProvenRows$Act;"⟩
abbrev cX4_readNumber : ByteArray := prog_6_method_10_code
def yX4_readNumber : MethodName := ⟨RX4, "readNumber", "(II)V"⟩
abbrev cX4_actOf : ByteArray := prog_6_method_11_code
def yX4_actOf : MethodName := ⟨RX4, "actOf", "(I)LProvenRows$Act;"⟩
abbrev cX4_numbersOf : ByteArray := prog_6_method_12_code
def yX4_numbersOf : MethodName := ⟨RX4, "numbersOf", "(I)I"⟩
abbrev cX4_isAsTold : ByteArray := prog_6_method_13_code
def yX4_isAsTold : MethodName := ⟨RX4, "isAsTold", "(III)Z"⟩
abbrev cX4_nextToken : ByteArray := prog_6_method_14_code
def yX4_nextToken : MethodName := ⟨RX4, "nextToken", "()V"⟩
abbrev cX4_readName : ByteArray := prog_6_method_15_code
def yX4_readName : MethodName := ⟨RX4, "readName", "()V"⟩
abbrev cX4_readFigures : ByteArray := prog_6_method_16_code
def yX4_readFigures : MethodName := ⟨RX4, "readFigures", "()V"⟩
abbrev cX4_byteAt : ByteArray := prog_6_method_17_code
def yX4_byteAt : MethodName := ⟨RX4, "byteAt", "(I)I"⟩
abbrev cX4_isLetter : ByteArray := prog_6_method_18_code
def yX4_isLetter : MethodName := ⟨RX4, "isLetter", "(I)Z"⟩
abbrev cX4_isFigure : ByteArray := prog_6_method_19_code
def yX4_isFigure : MethodName := ⟨RX4, "isFigure", "(I)Z"⟩
abbrev cX4_wordOfToken : ByteArray := prog_6_method_20_code
def yX4_wordOfToken : MethodName := ⟨RX4, "wordOfToken", "()I"⟩
abbrev cX4_textOf : ByteArray := prog_6_method_21_code
def yX4_textOf : MethodName := ⟨RX4, "textOf", "(I)Ljava/lang/String;"⟩
abbrev cX4_isTokenText : ByteArray := prog_6_method_22_code
def yX4_isTokenText : MethodName := ⟨RX4, "isTokenText", "(Ljava/lang/String;)Z"⟩
def RX5 : String := "ProvenRows$Prover"
def TX5 : u_T := fun k => match k with
  | 0 => ("ProvenRows$Prover", "shown", "[Z", true)
  | 1 => ("ProvenRows$Prover", "proofs", "LProvenRows$Numbers;", true)
  | 2 => ("ProvenRows$Prover", "result", "LProvenRows$Numbers;", true)
  | 3 => ("ProvenRows$Prover", "ofA", "LProvenRows$Rows;", true)
  | _ => ("ProvenRows$Prover", "ofB", "LProvenRows$Rows;", true)
def tyX5 : Nat → FieldType := fun k => match k with
  | 0 => .array .boolean
  | 1 => .object "ProvenRows$Numbers"
  | 2 => .object "ProvenRows$Numbers"
  | 3 => .object "ProvenRows$Rows"
  | _ => .object "ProvenRows$Rows"
abbrev wsX50 : List Cond := u_ws RX5 TX5 5
theorem nmX5 : ∀ a, a < 5 → ∀ b, b < 5 → a ≠ b → (TX5 a).2.1 ≠ (TX5 b).2.1 := by decide +kernel
theorem tyX5_ok : ∀ k, k < 5 → parseFieldDescriptor (TX5 k).2.2.1 = some (tyX5 k) := by decide +kernel
abbrev cX5_init : ByteArray := prog_7_method_1_code
def yX5_init : MethodName := ⟨RX5, "<init>", "()V"⟩
abbrev cX5_proofsOf : ByteArray := prog_7_method_2_code
def yX5_proofsOf : MethodName := ⟨RX5, "proofsOf", "(LProvenRows$Act;[LProvenRows$Table;)LProvenRows$Numbers;"⟩
abbrev cX5_tellRange : ByteArray := prog_7_method_3_code
def yX5_tellRange : MethodName := ⟨RX5, "tellRange", "(LProvenRows$Table;II)V"⟩
abbrev cX5_hideAll : ByteArray := prog_7_method_4_code
def yX5_hideAll : MethodName := ⟨RX5, "hideAll", "()V"⟩
abbrev cX5_show : ByteArray := prog_7_method_5_code
def yX5_show : MethodName := ⟨RX5, "show", "(II)V"⟩
abbrev cX5_tellShown : ByteArray := prog_7_method_6_code
def yX5_tellShown : MethodName := ⟨RX5, "tellShown", "(LProvenRows$Table;)V"⟩
abbrev cX5_hasShown : ByteArray := prog_7_method_7_code
def yX5_hasShown : MethodName := ⟨RX5, "hasShown", "(II)Z"⟩
abbrev cX5_tellTree : ByteArray := prog_7_method_8_code
def yX5_tellTree : MethodName := ⟨RX5, "tellTree", "(LProvenRows$Table;IZ)V"⟩
abbrev cX5_answerOf : ByteArray := prog_7_method_9_code
def yX5_answerOf : MethodName := ⟨RX5, "answerOf", "(LProvenRows$Act;[LProvenRows$Table;)LProvenRows$Numbers;"⟩
abbrev cX5_gather : ByteArray := prog_7_method_10_code
def yX5_gather : MethodName := ⟨RX5, "gather", "(LProvenRows$Rows;LProvenRows$Rows;II)V"⟩
abbrev cX5_gatherEnds : ByteArray := prog_7_method_11_code
def yX5_gatherEnds : MethodName := ⟨RX5, "gatherEnds", "(LProvenRows$Rows;II)I"⟩
def RX6 : String := "ProvenRows$Rows"
def TX6 : u_T := fun k => match k with
  | 0 => ("ProvenRows$Rows", "keys", "[I", true)
  | 1 => ("ProvenRows$Rows", "values", "[I", true)
  | _ => ("ProvenRows$Rows", "size", "I", false)
def tyX6 : Nat → FieldType := fun k => match k with
  | 0 => .array .int
  | 1 => .array .int
  | _ => .int
abbrev wsX60 : List Cond := u_ws RX6 TX6 3
theorem nmX6 : ∀ a, a < 3 → ∀ b, b < 3 → a ≠ b → (TX6 a).2.1 ≠ (TX6 b).2.1 := by decide +kernel
theorem tyX6_ok : ∀ k, k < 3 → parseFieldDescriptor (TX6 k).2.2.1 = some (tyX6 k) := by decide +kernel
abbrev cX6_init : ByteArray := prog_8_method_1_code
def yX6_init : MethodName := ⟨RX6, "<init>", "()V"⟩
abbrev cX6_clear : ByteArray := prog_8_method_2_code
def yX6_clear : MethodName := ⟨RX6, "clear", "()V"⟩
abbrev cX6_add : ByteArray := prog_8_method_3_code
def yX6_add : MethodName := ⟨RX6, "add", "(II)V"⟩
abbrev cX6_insert : ByteArray := prog_8_method_4_code
def yX6_insert : MethodName := ⟨RX6, "insert", "(III)V"⟩
abbrev cX6_remove : ByteArray := prog_8_method_5_code
def yX6_remove : MethodName := ⟨RX6, "remove", "(I)V"⟩
abbrev cX6_replaceValue : ByteArray := prog_8_method_6_code
def yX6_replaceValue : MethodName := ⟨RX6, "replaceValue", "(II)V"⟩
abbrev cX6_size : ByteArray := prog_8_method_7_code
def yX6_size : MethodName := ⟨RX6, "size", "()I"⟩
abbrev cX6_keyAt : ByteArray := prog_8_method_8_code
def yX6_keyAt : MethodName := ⟨RX6, "keyAt", "(I)I"⟩
abbrev cX6_valueAt : ByteArray := prog_8_method_9_code
def yX6_valueAt : MethodName := ⟨RX6, "valueAt", "(I)I"⟩
abbrev cX6_placeOf : ByteArray := prog_8_method_10_code
def yX6_placeOf : MethodName := ⟨RX6, "placeOf", "(I)I"⟩
def RX7 : String := "ProvenRows$Sheet"
def TX7 : u_T := fun k => match k with
  | 0 => ("ProvenRows$Sheet", "items", "[I", true)
  | 1 => ("ProvenRows$Sheet", "lane", "I", false)
  | _ => ("ProvenRows$Sheet", "size", "I", false)
def tyX7 : Nat → FieldType := fun k => match k with
  | 0 => .array .int
  | 1 => .int
  | _ => .int
abbrev wsX70 : List Cond := u_ws RX7 TX7 3
theorem nmX7 : ∀ a, a < 3 → ∀ b, b < 3 → a ≠ b → (TX7 a).2.1 ≠ (TX7 b).2.1 := by decide +kernel
theorem tyX7_ok : ∀ k, k < 3 → parseFieldDescriptor (TX7 k).2.2.1 = some (tyX7 k) := by decide +kernel
abbrev cX7_init : ByteArray := prog_9_method_1_code
def yX7_init : MethodName := ⟨RX7, "<init>", "()V"⟩
abbrev cX7_begin : ByteArray := prog_9_method_2_code
def yX7_begin : MethodName := ⟨RX7, "begin", "(II)V"⟩
abbrev cX7_lose : ByteArray := prog_9_method_3_code
def yX7_lose : MethodName := ⟨RX7, "lose", "()V"⟩
abbrev cX7_isMissing : ByteArray := prog_9_method_4_code
def yX7_isMissing : MethodName := ⟨RX7, "isMissing", "()Z"⟩
abbrev cX7_lane : ByteArray := prog_9_method_5_code
def yX7_lane : MethodName := ⟨RX7, "lane", "()I"⟩
abbrev cX7_size : ByteArray := prog_9_method_6_code
def yX7_size : MethodName := ⟨RX7, "size", "()I"⟩
abbrev cX7_hasItems : ByteArray := prog_9_method_7_code
def yX7_hasItems : MethodName := ⟨RX7, "hasItems", "(II)Z"⟩
abbrev cX7_item : ByteArray := prog_9_method_8_code
def yX7_item : MethodName := ⟨RX7, "item", "(I)I"⟩
abbrev cX7_store : ByteArray := prog_9_method_9_code
def yX7_store : MethodName := ⟨RX7, "store", "(II)I"⟩
abbrev cX7_storeItems : ByteArray := prog_9_method_10_code
def yX7_storeItems : MethodName := ⟨RX7, "storeItems", "(LProvenRows$Sheet;III)V"⟩
def RX8 : String := "ProvenRows$Table"
def TX8 : u_T := fun k => match k with
  | 0 => ("ProvenRows$Table", "leaves", "LProvenRows$Rows;", true)
  | _ => ("ProvenRows$Table", "tree", "LProvenRows$Tree;", true)
def tyX8 : Nat → FieldType := fun k => match k with
  | 0 => .object "ProvenRows$Rows"
  | _ => .object "ProvenRows$Tree"
abbrev wsX80 : List Cond := u_ws RX8 TX8 2
theorem nmX8 : ∀ a, a < 2 → ∀ b, b < 2 → a ≠ b → (TX8 a).2.1 ≠ (TX8 b).2.1 := by decide +kernel
theorem tyX8_ok : ∀ k, k < 2 → parseFieldDescriptor (TX8 k).2.2.1 = some (tyX8 k) := by decide +kernel
abbrev cX8_init : ByteArray := prog_10_method_1_code
def yX8_init : MethodName := ⟨RX8, "<init>", "()V"⟩
abbrev cX8_sealAnew : ByteArray := prog_10_method_2_code
def yX8_sealAnew : MethodName := ⟨RX8, "sealAnew", "()V"⟩
abbrev cX8_store : ByteArray := prog_10_method_3_code
def yX8_store : MethodName := ⟨RX8, "store", "(II)Z"⟩
abbrev cX8_remove : ByteArray := prog_10_method_4_code
def yX8_remove : MethodName := ⟨RX8, "remove", "(I)V"⟩
abbrev cX8_rows : ByteArray := prog_10_method_5_code
def yX8_rows : MethodName := ⟨RX8, "rows", "()I"⟩
abbrev cX8_leaves : ByteArray := prog_10_method_6_code
def yX8_leaves : MethodName := ⟨RX8, "leaves", "()LProvenRows$Rows;"⟩
abbrev cX8_tree : ByteArray := prog_10_method_7_code
def yX8_tree : MethodName := ⟨RX8, "tree", "()LProvenRows$Tree;"⟩
abbrev cX8_firstFrom : ByteArray := prog_10_method_8_code
def yX8_firstFrom : MethodName := ⟨RX8, "firstFrom", "(I)I"⟩
def RX9 : String := "ProvenRows$Tree"
def TX9 : u_T := fun k => match k with
  | 0 => ("ProvenRows$Tree", "starts", "[I", true)
  | 1 => ("ProvenRows$Tree", "widths", "[I", true)
  | 2 => ("ProvenRows$Tree", "seals", "[I", true)
  | _ => ("ProvenRows$Tree", "sums", "[I", true)
def tyX9 : Nat → FieldType := fun k => match k with
  | 0 => .array .int
  | 1 => .array .int
  | 2 => .array .int
  | _ => .array .int
abbrev wsX90 : List Cond := u_ws RX9 TX9 4
theorem nmX9 : ∀ a, a < 4 → ∀ b, b < 4 → a ≠ b → (TX9 a).2.1 ≠ (TX9 b).2.1 := by decide +kernel
theorem tyX9_ok : ∀ k, k < 4 → parseFieldDescriptor (TX9 k).2.2.1 = some (tyX9 k) := by decide +kernel
abbrev cX9_init : ByteArray := prog_11_method_1_code
def yX9_init : MethodName := ⟨RX9, "<init>", "()V"⟩
abbrev cX9_shape : ByteArray := prog_11_method_2_code
def yX9_shape : MethodName := ⟨RX9, "shape", "(I)V"⟩
abbrev cX9_isLeaf : ByteArray := prog_11_method_3_code
def yX9_isLeaf : MethodName := ⟨RX9, "isLeaf", "(I)Z"⟩
abbrev cX9_isFork : ByteArray := prog_11_method_4_code
def yX9_isFork : MethodName := ⟨RX9, "isFork", "(I)Z"⟩
abbrev cX9_start : ByteArray := prog_11_method_5_code
def yX9_start : MethodName := ⟨RX9, "start", "(I)I"⟩
abbrev cX9_width : ByteArray := prog_11_method_6_code
def yX9_width : MethodName := ⟨RX9, "width", "(I)I"⟩
abbrev cX9_sealOf : ByteArray := prog_11_method_7_code
def yX9_sealOf : MethodName := ⟨RX9, "sealOf", "(I)I"⟩
abbrev cX9_sumOf : ByteArray := prog_11_method_8_code
def yX9_sumOf : MethodName := ⟨RX9, "sumOf", "(I)I"⟩
abbrev cX9_become : ByteArray := prog_11_method_9_code
def yX9_become : MethodName := ⟨RX9, "become", "(III)V"⟩
abbrev cX9_becomeLeaf : ByteArray := prog_11_method_10_code
def yX9_becomeLeaf : MethodName := ⟨RX9, "becomeLeaf", "(III)V"⟩
abbrev cX9_becomeFork : ByteArray := prog_11_method_11_code
def yX9_becomeFork : MethodName := ⟨RX9, "becomeFork", "(I)V"⟩
abbrev cX9_tableSeal : ByteArray := prog_11_method_12_code
def yX9_tableSeal : MethodName := ⟨RX9, "tableSeal", "()I"⟩
abbrev cX9_behind : ByteArray := prog_11_method_13_code
def yX9_behind : MethodName := ⟨RX9, "behind", "(I)I"⟩
def RX10 : String := "ProvenRows"
def TX10 : u_T := fun k => match k with
  | 0 => ("ProvenRows", "sheets", "[LProvenRows$Sheet;", true)
  | 1 => ("ProvenRows", "tables", "[LProvenRows$Table;", true)
  | 2 => ("ProvenRows", "roundNumbers", "[I", true)
  | 3 => ("ProvenRows", "rounds", "I", false)
  | 4 => ("ProvenRows", "plans", "LProvenRows$Plans;", true)
  | 5 => ("ProvenRows", "prover", "LProvenRows$Prover;", true)
  | 6 => ("ProvenRows", "checker", "LProvenRows$Checker;", true)
  | 7 => ("ProvenRows", "forgeries", "LProvenRows$Checker;", true)
  | 8 => ("ProvenRows", "asks", "LProvenRows$Asks;", true)
  | _ => ("ProvenRows", "finding", "I", false)
def tyX10 : Nat → FieldType := fun k => match k with
  | 0 => .array (.object "ProvenRows$Sheet")
  | 1 => .array (.object "ProvenRows$Table")
  | 2 => .array .int
  | 3 => .int
  | 4 => .object "ProvenRows$Plans"
  | 5 => .object "ProvenRows$Prover"
  | 6 => .object "ProvenRows$Checker"
  | 7 => .object "ProvenRows$Checker"
  | 8 => .object "ProvenRows$Asks"
  | _ => .int
abbrev wsX100 : List Cond := u_ws RX10 TX10 10
theorem nmX10 : ∀ a, a < 10 → ∀ b, b < 10 → a ≠ b → (TX10 a).2.1 ≠ (TX10 b).2.1 := by decide +kernel
theorem tyX10_ok : ∀ k, k < 10 → parseFieldDescriptor (TX10 k).2.2.1 = some (tyX10 k) := by decide +kernel
abbrev cX10_init : ByteArray := prog_1_method_1_code
def yX10_init : MethodName := ⟨RX10, "<init>", "()V"⟩
abbrev cX10_sheet : ByteArray := prog_1_method_2_code
def yX10_sheet : MethodName := ⟨RX10, "sheet", "(III)I"⟩
abbrev cX10_set : ByteArray := prog_1_method_3_code
def yX10_set : MethodName := ⟨RX10, "set", "(III)I"⟩
abbrev cX10_copy : ByteArray := prog_1_method_4_code
def yX10_copy : MethodName := ⟨RX10, "copy", "(IIIII)I"⟩
abbrev cX10_drop : ByteArray := prog_1_method_5_code
def yX10_drop : MethodName := ⟨RX10, "drop", "(I)I"⟩
abbrev cX10_put : ByteArray := prog_1_method_6_code
def yX10_put : MethodName := ⟨RX10, "put", "(III)I"⟩
abbrev cX10_take : ByteArray := prog_1_method_7_code
def yX10_take : MethodName := ⟨RX10, "take", "(II)I"⟩
abbrev cX10_told : ByteArray := prog_1_method_8_code
def yX10_told : MethodName := ⟨RX10, "told", "(II)I"⟩
abbrev cX10_round : ByteArray := prog_1_method_9_code
def yX10_round : MethodName := ⟨RX10, "round", "()I"⟩
abbrev cX10_seal : ByteArray := prog_1_method_10_code
def yX10_seal : MethodName := ⟨RX10, "seal", "(II)I"⟩
abbrev cX10_feed : ByteArray := prog_1_method_11_code
def yX10_feed : MethodName := ⟨RX10, "feed", "(JI)I"⟩
abbrev cX10_plan : ByteArray := prog_1_method_12_code
def yX10_plan : MethodName := ⟨RX10, "plan", "()I"⟩
abbrev cX10_fault : ByteArray := prog_1_method_13_code
def yX10_fault : MethodName := ⟨RX10, "fault", "()I"⟩
abbrev cX10_proof : ByteArray := prog_1_method_14_code
def yX10_proof : MethodName := ⟨RX10, "proof", "(II)I"⟩
abbrev cX10_answer : ByteArray := prog_1_method_15_code
def yX10_answer : MethodName := ⟨RX10, "answer", "(II)I"⟩
abbrev cX10_write : ByteArray := prog_1_method_16_code
def yX10_write : MethodName := ⟨RX10, "write", "(III)I"⟩
abbrev cX10_check : ByteArray := prog_1_method_17_code
def yX10_check : MethodName := ⟨RX10, "check", "(IIIII)I"⟩
abbrev cX10_why : ByteArray := prog_1_method_18_code
def yX10_why : MethodName := ⟨RX10, "why", "()I"⟩
abbrev cX10_read : ByteArray := prog_1_method_19_code
def yX10_read : MethodName := ⟨RX10, "read", "(I)I"⟩
abbrev cX10_fewer : ByteArray := prog_1_method_20_code
def yX10_fewer : MethodName := ⟨RX10, "fewer", "(IIII)I"⟩
abbrev cX10_forged : ByteArray := prog_1_method_21_code
def yX10_forged : MethodName := ⟨RX10, "forged", "(II)I"⟩
abbrev cX10_kind : ByteArray := prog_1_method_22_code
def yX10_kind : MethodName := ⟨RX10, "kind", "(I)I"⟩
abbrev cX10_as : ByteArray := prog_1_method_23_code
def yX10_as : MethodName := ⟨RX10, "as", "(II)I"⟩
abbrev cX10_ask : ByteArray := prog_1_method_24_code
def yX10_ask : MethodName := ⟨RX10, "ask", "(II)I"⟩
abbrev cX10_trace : ByteArray := prog_1_method_25_code
def yX10_trace : MethodName := ⟨RX10, "trace", "(I)I"⟩
abbrev cX10_count : ByteArray := prog_1_method_26_code
def yX10_count : MethodName := ⟨RX10, "count", "(I)I"⟩
abbrev cX10_status : ByteArray := prog_1_method_27_code
def yX10_status : MethodName := ⟨RX10, "status", "()I"⟩
abbrev cX10_isWithin : ByteArray := prog_1_method_28_code
def yX10_isWithin : MethodName := ⟨RX10, "isWithin", "(II)Z"⟩
abbrev cX10_mix : ByteArray := prog_1_method_29_code
def yX10_mix : MethodName := ⟨RX10, "mix", "(JJ)I"⟩
abbrev cX10_found : ByteArray := prog_1_method_30_code
def yX10_found : MethodName := ⟨RX10, "found", "(I)I"⟩
abbrev cX10_fine : ByteArray := prog_1_method_31_code
def yX10_fine : MethodName := ⟨RX10, "fine", "(I)I"⟩
abbrev cX10_roundNumber : ByteArray := prog_1_method_32_code
def yX10_roundNumber : MethodName := ⟨RX10, "roundNumber", "(II)I"⟩
abbrev cX10_sheetsThere : ByteArray := prog_1_method_33_code
def yX10_sheetsThere : MethodName := ⟨RX10, "sheetsThere", "()I"⟩
def RX11 : String := "ProvenRowsModel"
def TX11 : u_T := fun k => match k with
  | 0 => ("ProvenRowsModel", "thrown", "I", false)
  | 1 => ("ProvenRowsModel", "status", "I", false)
  | 2 => ("ProvenRowsModel", "lane", "[I", true)
  | 3 => ("ProvenRowsModel", "many", "[I", true)
  | 4 => ("ProvenRowsModel", "item", "[I", true)
  | 5 => ("ProvenRowsModel", "rows", "[I", true)
  | 6 => ("ProvenRowsModel", "keys", "[I", true)
  | 7 => ("ProvenRowsModel", "values", "[I", true)
  | 8 => ("ProvenRowsModel", "leaves", "I", false)
  | 9 => ("ProvenRowsModel", "leafKey", "[I", true)
  | 10 => ("ProvenRowsModel", "leafValue", "[I", true)
  | 11 => ("ProvenRowsModel", "sealAt", "[I", true)
  | 12 => ("ProvenRowsModel", "sumAt", "[I", true)
  | 13 => ("ProvenRowsModel", "rounds", "I", false)
  | 14 => ("ProvenRowsModel", "sealed", "[I", true)
  | 15 => ("ProvenRowsModel", "acts", "I", false)
  | 16 => ("ProvenRowsModel", "actWhat", "[I", true)
  | 17 => ("ProvenRowsModel", "actOne", "[I", true)
  | 18 => ("ProvenRowsModel", "actOther", "[I", true)
  | 19 => ("ProvenRowsModel", "actLow", "[I", true)
  | 20 => ("ProvenRowsModel", "actHigh", "[I", true)
  | 21 => ("ProvenRowsModel", "newActs", "I", false)
  | 22 => ("ProvenRowsModel", "tape", "[I", true)
  | 23 => ("ProvenRowsModel", "taped", "I", false)
  | 24 => ("ProvenRowsModel", "latest", "I", false)
  | 25 => ("ProvenRowsModel", "length", "I", false)
  | 26 => ("ProvenRowsModel", "cursor", "I", false)
  | 27 => ("ProvenRowsModel", "token", "I", false)
  | 28 => ("ProvenRowsModel", "from", "I", false)
  | 29 => ("ProvenRowsModel", "till", "I", false)
  | 30 => ("ProvenRowsModel", "fault", "I", false)
  | 31 => ("ProvenRowsModel", "faultAt", "I", false)
  | 32 => ("ProvenRowsModel", "words", "I", false)
  | 33 => ("ProvenRowsModel", "told", "[I", true)
  | 34 => ("ProvenRowsModel", "isShown", "[Z", true)
  | 35 => ("ProvenRowsModel", "pileFrom", "[I", true)
  | 36 => ("ProvenRowsModel", "pileMany", "[I", true)
  | 37 => ("ProvenRowsModel", "answers", "I", false)
  | 38 => ("ProvenRowsModel", "answer", "[I", true)
  | 39 => ("ProvenRowsModel", "numbers", "I", false)
  | 40 => ("ProvenRowsModel", "number", "[I", true)
  | 41 => ("ProvenRowsModel", "place", "I", false)
  | 42 => ("ProvenRowsModel", "wrong", "I", false)
  | 43 => ("ProvenRowsModel", "whyNow", "I", false)
  | 44 => ("ProvenRowsModel", "readLeaves", "I", false)
  | 45 => ("ProvenRowsModel", "wasShown", "[Z", true)
  | 46 => ("ProvenRowsModel", "shownKey", "[I", true)
  | 47 => ("ProvenRowsModel", "shownValue", "[I", true)
  | 48 => ("ProvenRowsModel", "hiddenSum", "[I", true)
  | 49 => ("ProvenRowsModel", "treeFrom", "[I", true)
  | 50 => ("ProvenRowsModel", "treeMany", "[I", true)
  | 51 => ("ProvenRowsModel", "treeDone", "[I", true)
  | 52 => ("ProvenRowsModel", "treeSeal", "[I", true)
  | 53 => ("ProvenRowsModel", "treeSum", "[I", true)
  | 54 => ("ProvenRowsModel", "seal", "I", false)
  | 55 => ("ProvenRowsModel", "sum", "I", false)
  | 56 => ("ProvenRowsModel", "left", "I", false)
  | 57 => ("ProvenRowsModel", "right", "I", false)
  | 58 => ("ProvenRowsModel", "had", "I", false)
  | 59 => ("ProvenRowsModel", "hadKey", "[I", true)
  | 60 => ("ProvenRowsModel", "hadValue", "[I", true)
  | 61 => ("ProvenRowsModel", "latestWhy", "I", false)
  | 62 => ("ProvenRowsModel", "readMany", "I", false)
  | 63 => ("ProvenRowsModel", "readAnswer", "[I", true)
  | 64 => ("ProvenRowsModel", "trace", "[I", true)
  | _ => ("ProvenRowsModel", "traced", "I", false)
def tyX11 : Nat → FieldType := fun k => match k with
  | 0 => .int
  | 1 => .int
  | 2 => .array .int
  | 3 => .array .int
  | 4 => .array .int
  | 5 => .array .int
  | 6 => .array .int
  | 7 => .array .int
  | 8 => .int
  | 9 => .array .int
  | 10 => .array .int
  | 11 => .array .int
  | 12 => .array .int
  | 13 => .int
  | 14 => .array .int
  | 15 => .int
  | 16 => .array .int
  | 17 => .array .int
  | 18 => .array .int
  | 19 => .array .int
  | 20 => .array .int
  | 21 => .int
  | 22 => .array .int
  | 23 => .int
  | 24 => .int
  | 25 => .int
  | 26 => .int
  | 27 => .int
  | 28 => .int
  | 29 => .int
  | 30 => .int
  | 31 => .int
  | 32 => .int
  | 33 => .array .int
  | 34 => .array .boolean
  | 35 => .array .int
  | 36 => .array .int
  | 37 => .int
  | 38 => .array .int
  | 39 => .int
  | 40 => .array .int
  | 41 => .int
  | 42 => .int
  | 43 => .int
  | 44 => .int
  | 45 => .array .boolean
  | 46 => .array .int
  | 47 => .array .int
  | 48 => .array .int
  | 49 => .array .int
  | 50 => .array .int
  | 51 => .array .int
  | 52 => .array .int
  | 53 => .array .int
  | 54 => .int
  | 55 => .int
  | 56 => .int
  | 57 => .int
  | 58 => .int
  | 59 => .array .int
  | 60 => .array .int
  | 61 => .int
  | 62 => .int
  | 63 => .array .int
  | 64 => .array .int
  | _ => .int
abbrev wsX110 : List Cond := u_ws RX11 TX11 66
theorem nmX11 : ∀ a, a < 66 → ∀ b, b < 66 → a ≠ b → (TX11 a).2.1 ≠ (TX11 b).2.1 := by decide +kernel
theorem tyX11_ok : ∀ k, k < 66 → parseFieldDescriptor (TX11 k).2.2.1 = some (tyX11 k) := by decide +kernel
abbrev cX11_init : ByteArray := prog_13_method_1_code
def yX11_init : MethodName := ⟨RX11, "<init>", "()V"⟩
abbrev cX11_in : ByteArray := prog_13_method_3_code
def yX11_in : MethodName := ⟨RX11, "in", "(JJJ)Z"⟩
abbrev cX11_finding : ByteArray := prog_13_method_4_code
def yX11_finding : MethodName := ⟨RX11, "finding", "(I)I"⟩
abbrev cX11_join : ByteArray := prog_13_method_5_code
def yX11_join : MethodName := ⟨RX11, "join", "(II)I"⟩
abbrev cX11_isSheet : ByteArray := prog_13_method_6_code
def yX11_isSheet : MethodName := ⟨RX11, "isSheet", "(I)Z"⟩
abbrev cX11_sheet : ByteArray := prog_13_method_7_code
def yX11_sheet : MethodName := ⟨RX11, "sheet", "(III)I"⟩
abbrev cX11_set : ByteArray := prog_13_method_8_code
def yX11_set : MethodName := ⟨RX11, "set", "(III)I"⟩
abbrev cX11_copy : ByteArray := prog_13_method_9_code
def yX11_copy : MethodName := ⟨RX11, "copy", "(IIIII)I"⟩
abbrev cX11_drop : ByteArray := prog_13_method_10_code
def yX11_drop : MethodName := ⟨RX11, "drop", "(I)I"⟩
abbrev cX11_isTable : ByteArray := prog_13_method_11_code
def yX11_isTable : MethodName := ⟨RX11, "isTable", "(I)Z"⟩
abbrev cX11_isKey : ByteArray := prog_13_method_12_code
def yX11_isKey : MethodName := ⟨RX11, "isKey", "(I)Z"⟩
abbrev cX11_placeOf : ByteArray := prog_13_method_13_code
def yX11_placeOf : MethodName := ⟨RX11, "placeOf", "(II)I"⟩
abbrev cX11_hasKey : ByteArray := prog_13_method_14_code
def yX11_hasKey : MethodName := ⟨RX11, "hasKey", "(II)Z"⟩
abbrev cX11_put : ByteArray := prog_13_method_15_code
def yX11_put : MethodName := ⟨RX11, "put", "(III)I"⟩
abbrev cX11_take : ByteArray := prog_13_method_16_code
def yX11_take : MethodName := ⟨RX11, "take", "(II)I"⟩
abbrev cX11_sealOfLeaf : ByteArray := prog_13_method_17_code
def yX11_sealOfLeaf : MethodName := ⟨RX11, "sealOfLeaf", "(II)I"⟩
abbrev cX11_sealOfFork : ByteArray := prog_13_method_18_code
def yX11_sealOfFork : MethodName := ⟨RX11, "sealOfFork", "(IIII)I"⟩
abbrev cX11_layLeaves : ByteArray := prog_13_method_19_code
def yX11_layLeaves : MethodName := ⟨RX11, "layLeaves", "(I)V"⟩
abbrev cX11_sealOfTable : ByteArray := prog_13_method_20_code
def yX11_sealOfTable : MethodName := ⟨RX11, "sealOfTable", "(I)I"⟩
abbrev cX11_told : ByteArray := prog_13_method_21_code
def yX11_told : MethodName := ⟨RX11, "told", "(II)I"⟩
abbrev cX11_round : ByteArray := prog_13_method_22_code
def yX11_round : MethodName := ⟨RX11, "round", "()I"⟩
abbrev cX11_seal : ByteArray := prog_13_method_23_code
def yX11_seal : MethodName := ⟨RX11, "seal", "(II)I"⟩
abbrev cX11_feed : ByteArray := prog_13_method_24_code
def yX11_feed : MethodName := ⟨RX11, "feed", "(JI)I"⟩
abbrev cX11_byteAt : ByteArray := prog_13_method_25_code
def yX11_byteAt : MethodName := ⟨RX11, "byteAt", "(I)I"⟩
abbrev cX11_isLetter : ByteArray := prog_13_method_26_code
def yX11_isLetter : MethodName := ⟨RX11, "isLetter", "(I)Z"⟩
abbrev cX11_isFigure : ByteArray := prog_13_method_27_code
def yX11_isFigure : MethodName := ⟨RX11, "isFigure", "(I)Z"⟩
abbrev cX11_step : ByteArray := prog_13_method_28_code
def yX11_step : MethodName := ⟨RX11, "step", "()V"⟩
abbrev cX11_bad : ByteArray := prog_13_method_29_code
def yX11_bad : MethodName := ⟨RX11, "bad", "(I)V"⟩
abbrev cX11_must : ByteArray := prog_13_method_30_code
def yX11_must : MethodName := ⟨RX11, "must", "(Z)V"⟩
abbrev cX11_word : ByteArray := prog_13_method_31_code
def yX11_word : MethodName := ⟨RX11, "word", "()J"⟩
abbrev cX11_numberIn : ByteArray := prog_13_method_32_code
def yX11_numberIn : MethodName := ⟨RX11, "numberIn", "(II)I"⟩
abbrev cX11_actOfWord : ByteArray := prog_13_method_33_code
def yX11_actOfWord : MethodName := ⟨RX11, "actOfWord", "()I"⟩
abbrev cX11_readAct : ByteArray := prog_13_method_34_code
def yX11_readAct : MethodName := ⟨RX11, "readAct", "()V"⟩
abbrev cX11_plan : ByteArray := prog_13_method_35_code
def yX11_plan : MethodName := ⟨RX11, "plan", "()I"⟩
abbrev cX11_fault : ByteArray := prog_13_method_36_code
def yX11_fault : MethodName := ⟨RX11, "fault", "()I"⟩
abbrev cX11_isAct : ByteArray := prog_13_method_37_code
def yX11_isAct : MethodName := ⟨RX11, "isAct", "(I)Z"⟩
abbrev cX11_tell : ByteArray := prog_13_method_38_code
def yX11_tell : MethodName := ⟨RX11, "tell", "(I)V"⟩
abbrev cX11_isSome : ByteArray := prog_13_method_39_code
def yX11_isSome : MethodName := ⟨RX11, "isSome", "(II)Z"⟩
abbrev cX11_tellTree : ByteArray := prog_13_method_40_code
def yX11_tellTree : MethodName := ⟨RX11, "tellTree", "()V"⟩
abbrev cX11_ahead : ByteArray := prog_13_method_41_code
def yX11_ahead : MethodName := ⟨RX11, "ahead", "(I)I"⟩
abbrev cX11_behind : ByteArray := prog_13_method_42_code
def yX11_behind : MethodName := ⟨RX11, "behind", "(I)I"⟩
abbrev cX11_tellProof : ByteArray := prog_13_method_43_code
def yX11_tellProof : MethodName := ⟨RX11, "tellProof", "(IIII)V"⟩
abbrev cX11_tellAll : ByteArray := prog_13_method_44_code
def yX11_tellAll : MethodName := ⟨RX11, "tellAll", "(IIIII)V"⟩
abbrev cX11_tellAct : ByteArray := prog_13_method_45_code
def yX11_tellAct : MethodName := ⟨RX11, "tellAct", "(I)V"⟩
abbrev cX11_proof : ByteArray := prog_13_method_46_code
def yX11_proof : MethodName := ⟨RX11, "proof", "(II)I"⟩
abbrev cX11_write : ByteArray := prog_13_method_47_code
def yX11_write : MethodName := ⟨RX11, "write", "(III)I"⟩
abbrev cX11_fewer : ByteArray := prog_13_method_48_code
def yX11_fewer : MethodName := ⟨RX11, "fewer", "(IIII)I"⟩
abbrev cX11_say : ByteArray := prog_13_method_49_code
def yX11_say : MethodName := ⟨RX11, "say", "(I)V"⟩
abbrev cX11_answerAct : ByteArray := prog_13_method_50_code
def yX11_answerAct : MethodName := ⟨RX11, "answerAct", "(I)V"⟩
abbrev cX11_answer : ByteArray := prog_13_method_51_code
def yX11_answer : MethodName := ⟨RX11, "answer", "(II)I"⟩
abbrev cX11_isWrong : ByteArray := prog_13_method_52_code
def yX11_isWrong : MethodName := ⟨RX11, "isWrong", "(II)V"⟩
abbrev cX11_next : ByteArray := prog_13_method_53_code
def yX11_next : MethodName := ⟨RX11, "next", "(II)I"⟩
abbrev cX11_readLeaf : ByteArray := prog_13_method_54_code
def yX11_readLeaf : MethodName := ⟨RX11, "readLeaf", "(II)V"⟩
abbrev cX11_readTree : ByteArray := prog_13_method_55_code
def yX11_readTree : MethodName := ⟨RX11, "readTree", "()V"⟩
abbrev cX11_areShown : ByteArray := prog_13_method_56_code
def yX11_areShown : MethodName := ⟨RX11, "areShown", "(II)Z"⟩
abbrev cX11_isEnough : ByteArray := prog_13_method_57_code
def yX11_isEnough : MethodName := ⟨RX11, "isEnough", "(III)Z"⟩
abbrev cX11_readProof : ByteArray := prog_13_method_58_code
def yX11_readProof : MethodName := ⟨RX11, "readProof", "(IIIII)V"⟩
abbrev cX11_valueShown : ByteArray := prog_13_method_59_code
def yX11_valueShown : MethodName := ⟨RX11, "valueShown", "(I)I"⟩
abbrev cX11_sayRow : ByteArray := prog_13_method_60_code
def yX11_sayRow : MethodName := ⟨RX11, "sayRow", "(III)V"⟩
abbrev cX11_isTaken : ByteArray := prog_13_method_61_code
def yX11_isTaken : MethodName := ⟨RX11, "isTaken", "(II)Z"⟩
abbrev cX11_check : ByteArray := prog_13_method_62_code
def yX11_check : MethodName := ⟨RX11, "check", "(IIIII)I"⟩
abbrev cX11_why : ByteArray := prog_13_method_63_code
def yX11_why : MethodName := ⟨RX11, "why", "()I"⟩
abbrev cX11_read : ByteArray := prog_13_method_64_code
def yX11_read : MethodName := ⟨RX11, "read", "(I)I"⟩
abbrev cX11_forged : ByteArray := prog_13_method_65_code
def yX11_forged : MethodName := ⟨RX11, "forged", "(II)I"⟩
abbrev cX11_kindOf : ByteArray := prog_13_method_66_code
def yX11_kindOf : MethodName := ⟨RX11, "kindOf", "(I)I"⟩
abbrev cX11_isOf : ByteArray := prog_13_method_67_code
def yX11_isOf : MethodName := ⟨RX11, "isOf", "(II)Z"⟩
abbrev cX11_kind : ByteArray := prog_13_method_68_code
def yX11_kind : MethodName := ⟨RX11, "kind", "(I)I"⟩
abbrev cX11_as : ByteArray := prog_13_method_69_code
def yX11_as : MethodName := ⟨RX11, "as", "(II)I"⟩
abbrev cX11_began : ByteArray := prog_13_method_70_code
def yX11_began : MethodName := ⟨RX11, "began", "(I)V"⟩
abbrev cX11_markOf : ByteArray := prog_13_method_71_code
def yX11_markOf : MethodName := ⟨RX11, "markOf", "(I)I"⟩
abbrev cX11_sizeOf : ByteArray := prog_13_method_72_code
def yX11_sizeOf : MethodName := ⟨RX11, "sizeOf", "(I)I"⟩
abbrev cX11_ask : ByteArray := prog_13_method_73_code
def yX11_ask : MethodName := ⟨RX11, "ask", "(II)I"⟩
abbrev cX11_trace : ByteArray := prog_13_method_74_code
def yX11_trace : MethodName := ⟨RX11, "trace", "(I)I"⟩
abbrev cX11_count : ByteArray := prog_13_method_75_code
def yX11_count : MethodName := ⟨RX11, "count", "(I)I"⟩
abbrev cX11_status : ByteArray := prog_13_method_76_code
def yX11_status : MethodName := ⟨RX11, "status", "()I"⟩
def RJ9 : String := "java/lang/Math"
def TJ9 : u_T := fun k => match k with
  | _ => ("", "", "", false)
def tyJ9 : Nat → FieldType := fun k => match k with
  | _ => .int
abbrev wsJ90 : List Cond := u_ws RJ9 TJ9 0
theorem nmJ9 : ∀ a, a < 0 → ∀ b, b < 0 → a ≠ b → (TJ9 a).2.1 ≠ (TJ9 b).2.1 := by decide +kernel
theorem tyJ9_ok : ∀ k, k < 0 → parseFieldDescriptor (TJ9 k).2.2.1 = some (tyJ9 k) := by decide +kernel
abbrev cJ9_max_7cf53 : ByteArray := prog_14_method_65_code
def yJ9_max_7cf53 : MethodName := ⟨RJ9, "max", "(II)I"⟩
abbrev cJ9_min_7cf53 : ByteArray := prog_14_method_69_code
def yJ9_min_7cf53 : MethodName := ⟨RJ9, "min", "(II)I"⟩
def RJ0 : String := "java/lang/String"
def TJ0 : u_T := fun k => match k with
  | _ => ("", "", "", false)
def tyJ0 : Nat → FieldType := fun k => match k with
  | _ => .int
abbrev wsJ00 : List Cond := u_ws RJ0 TJ0 0
theorem nmJ0 : ∀ a, a < 0 → ∀ b, b < 0 → a ≠ b → (TJ0 a).2.1 ≠ (TJ0 b).2.1 := by decide +kernel
theorem tyJ0_ok : ∀ k, k < 0 → parseFieldDescriptor (TJ0 k).2.2.1 = some (tyJ0 k) := by decide +kernel
abbrev cJ0_length_8abf5 : ByteArray := prog_15_method_54_code
def yJ0_length_8abf5 : MethodName := ⟨RJ0, "length", "()I"⟩
abbrev cJ0_charAt_5068e : ByteArray := prog_15_method_56_code
def yJ0_charAt_5068e : MethodName := ⟨RJ0, "charAt", "(I)C"⟩
abbrev cJ0_coder_7d493 : ByteArray := prog_15_method_152_code
def yJ0_coder_7d493 : MethodName := ⟨RJ0, "coder", "()B"⟩
abbrev cJ0_isLatin1_aae02 : ByteArray := prog_15_method_154_code
def yJ0_isLatin1_aae02 : MethodName := ⟨RJ0, "isLatin1", "()Z"⟩
abbrev cJ0_checkIndex_df160 : ByteArray := prog_15_method_155_code
def yJ0_checkIndex_df160 : MethodName := ⟨RJ0, "checkIndex", "(II)V"⟩
def RJ1 : String := "java/lang/StringLatin1"
def TJ1 : u_T := fun k => match k with
  | _ => ("", "", "", false)
def tyJ1 : Nat → FieldType := fun k => match k with
  | _ => .int
abbrev wsJ10 : List Cond := u_ws RJ1 TJ1 0
theorem nmJ1 : ∀ a, a < 0 → ∀ b, b < 0 → a ≠ b → (TJ1 a).2.1 ≠ (TJ1 b).2.1 := by decide +kernel
theorem tyJ1_ok : ∀ k, k < 0 → parseFieldDescriptor (TJ1 k).2.2.1 = some (tyJ1 k) := by decide +kernel
abbrev cJ1_charAt_3b067 : ByteArray := prog_16_method_2_code
def yJ1_charAt_3b067 : MethodName := ⟨RJ1, "charAt", "([BI)C"⟩
def RJ7 : String := "java/util/Arrays"
def TJ7 : u_T := fun k => match k with
  | _ => ("", "", "", false)
def tyJ7 : Nat → FieldType := fun k => match k with
  | _ => .int
abbrev wsJ70 : List Cond := u_ws RJ7 TJ7 0
theorem nmJ7 : ∀ a, a < 0 → ∀ b, b < 0 → a ≠ b → (TJ7 a).2.1 ≠ (TJ7 b).2.1 := by decide +kernel
theorem tyJ7_ok : ∀ k, k < 0 → parseFieldDescriptor (TJ7 k).2.2.1 = some (tyJ7 k) := by decide +kernel
abbrev cJ7_fill_53178 : ByteArray := prog_19_method_103_code
def yJ7_fill_53178 : MethodName := ⟨RJ7, "fill", "([II)V"⟩
def RJ3 : String := "jdk/internal/util/Preconditions"
def TJ3 : u_T := fun k => match k with
  | _ => ("", "", "", false)
def tyJ3 : Nat → FieldType := fun k => match k with
  | _ => .int
abbrev wsJ30 : List Cond := u_ws RJ3 TJ3 0
theorem nmJ3 : ∀ a, a < 0 → ∀ b, b < 0 → a ≠ b → (TJ3 a).2.1 ≠ (TJ3 b).2.1 := by decide +kernel
theorem tyJ3_ok : ∀ k, k < 0 → parseFieldDescriptor (TJ3 k).2.2.1 = some (tyJ3 k) := by decide +kernel
abbrev cJ3_checkIndex_8e157 : ByteArray := prog_20_method_11_code
def yJ3_checkIndex_8e157 : MethodName := ⟨RJ3, "checkIndex", "(IILjava/util/function/BiFunction;)I"⟩
def RL : String := "ProvenRowsLaw"
abbrev vwCl : List vw_C := [(RX0, TX0, 6), (RX1, TX1, 7), (RX2, TX2, 14), (RX3, TX3, 2), (RX4, TX4, 11), (RX5, TX5, 5), (RX6, TX6, 3), (RX7, TX7, 3), (RX8, TX8, 2), (RX9, TX9, 4), (RX10, TX10, 10), (RX11, TX11, 66)]
