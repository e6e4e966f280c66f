-- ===== PART A: goes FIRST, ahead of the names: the tables' words, and 'selects' of the private methods out of them =====
/-- a private method of a class that the tables say can be made, by its rows of tables_1 -/
def lw_okq (q : MethodName × Nat) : Prop := (q.1.cls ≠ "java/lang/invoke/MethodHandle" ∧ q.1.cls ≠ "java/lang/invoke/VarHandle") ∧ Cond.instantiable q.1.cls q.2 ∈ tables_1 ∧ Cond.privateMethod q.1 ∈ tables_1 ∧ Cond.instanceMethod q.1 ∈ tables_1
theorem lw_p0 : lw_okq (⟨"DroveRoads$Road", "measure", "()V"⟩, 7) := ⟨⟨by decide +kernel, by decide +kernel⟩, List.mem_of_getElem? (i := 28) (by decide +kernel), List.mem_of_getElem? (i := 235) (by decide +kernel), List.mem_of_getElem? (i := 236) (by decide +kernel)⟩
theorem lw_p1 : lw_okq (⟨"DroveRoads", "priceKnownAt", "(I)I"⟩, 12) := ⟨⟨by decide +kernel, by decide +kernel⟩, List.mem_of_getElem? (i := 20) (by decide +kernel), List.mem_of_getElem? (i := 336) (by decide +kernel), List.mem_of_getElem? (i := 337) (by decide +kernel)⟩
theorem lw_p2 : lw_okq (⟨"DroveRoads", "feedFour", "(I)V"⟩, 12) := ⟨⟨by decide +kernel, by decide +kernel⟩, List.mem_of_getElem? (i := 20) (by decide +kernel), List.mem_of_getElem? (i := 352) (by decide +kernel), List.mem_of_getElem? (i := 353) (by decide +kernel)⟩
theorem lw_p3 : lw_okq (⟨"DroveRoads", "findHerd", "(I)LDroveRoads$Herd;"⟩, 12) := ⟨⟨by decide +kernel, by decide +kernel⟩, List.mem_of_getElem? (i := 20) (by decide +kernel), List.mem_of_getElem? (i := 364) (by decide +kernel), List.mem_of_getElem? (i := 365) (by decide +kernel)⟩
theorem lw_p4 : lw_okq (⟨"DroveRoads$Lexer", "byteAt", "(I)I"⟩, 6) := ⟨⟨by decide +kernel, by decide +kernel⟩, List.mem_of_getElem? (i := 374) (by decide +kernel), List.mem_of_getElem? (i := 435) (by decide +kernel), List.mem_of_getElem? (i := 436) (by decide +kernel)⟩
theorem lw_p5 : lw_okq (⟨"DroveRoads$Lexer", "scanWord", "()V"⟩, 6) := ⟨⟨by decide +kernel, by decide +kernel⟩, List.mem_of_getElem? (i := 374) (by decide +kernel), List.mem_of_getElem? (i := 445) (by decide +kernel), List.mem_of_getElem? (i := 446) (by decide +kernel)⟩
theorem lw_p6 : lw_okq (⟨"DroveRoads$Lexer", "wordToken", "()I"⟩, 6) := ⟨⟨by decide +kernel, by decide +kernel⟩, List.mem_of_getElem? (i := 374) (by decide +kernel), List.mem_of_getElem? (i := 449) (by decide +kernel), List.mem_of_getElem? (i := 450) (by decide +kernel)⟩
theorem lw_p7 : lw_okq (⟨"DroveRoads$Lexer", "letterAt", "(I)I"⟩, 6) := ⟨⟨by decide +kernel, by decide +kernel⟩, List.mem_of_getElem? (i := 374) (by decide +kernel), List.mem_of_getElem? (i := 464) (by decide +kernel), List.mem_of_getElem? (i := 465) (by decide +kernel)⟩
theorem lw_p8 : lw_okq (⟨"DroveRoads$Lexer", "scanNumber", "()V"⟩, 6) := ⟨⟨by decide +kernel, by decide +kernel⟩, List.mem_of_getElem? (i := 374) (by decide +kernel), List.mem_of_getElem? (i := 509) (by decide +kernel), List.mem_of_getElem? (i := 510) (by decide +kernel)⟩
theorem lw_p9 : lw_okq (⟨"DroveRoads$Lexer", "scanSign", "(C)V"⟩, 6) := ⟨⟨by decide +kernel, by decide +kernel⟩, List.mem_of_getElem? (i := 374) (by decide +kernel), List.mem_of_getElem? (i := 513) (by decide +kernel), List.mem_of_getElem? (i := 514) (by decide +kernel)⟩
theorem lw_p10 : lw_okq (⟨"DroveRoads$Parser", "take", "(I)Z"⟩, 5) := ⟨⟨by decide +kernel, by decide +kernel⟩, List.mem_of_getElem? (i := 368) (by decide +kernel), List.mem_of_getElem? (i := 575) (by decide +kernel), List.mem_of_getElem? (i := 576) (by decide +kernel)⟩
theorem lw_p11 : lw_okq (⟨"DroveRoads$Parser", "refuse", "()Z"⟩, 5) := ⟨⟨by decide +kernel, by decide +kernel⟩, List.mem_of_getElem? (i := 368) (by decide +kernel), List.mem_of_getElem? (i := 579) (by decide +kernel), List.mem_of_getElem? (i := 580) (by decide +kernel)⟩
theorem lw_p12 : lw_okq (⟨"DroveRoads$Parser", "refuseFor", "(I)Z"⟩, 5) := ⟨⟨by decide +kernel, by decide +kernel⟩, List.mem_of_getElem? (i := 368) (by decide +kernel), List.mem_of_getElem? (i := 583) (by decide +kernel), List.mem_of_getElem? (i := 584) (by decide +kernel)⟩
theorem lw_p13 : lw_okq (⟨"DroveRoads$Parser", "readE", "(I)Z"⟩, 5) := ⟨⟨by decide +kernel, by decide +kernel⟩, List.mem_of_getElem? (i := 368) (by decide +kernel), List.mem_of_getElem? (i := 587) (by decide +kernel), List.mem_of_getElem? (i := 588) (by decide +kernel)⟩
theorem lw_p14 : lw_okq (⟨"DroveRoads$Parser", "readBoth", "(I)Z"⟩, 5) := ⟨⟨by decide +kernel, by decide +kernel⟩, List.mem_of_getElem? (i := 368) (by decide +kernel), List.mem_of_getElem? (i := 591) (by decide +kernel), List.mem_of_getElem? (i := 592) (by decide +kernel)⟩
theorem lw_p15 : lw_okq (⟨"DroveRoads$Parser", "readOne", "(I)Z"⟩, 5) := ⟨⟨by decide +kernel, by decide +kernel⟩, List.mem_of_getElem? (i := 368) (by decide +kernel), List.mem_of_getElem? (i := 595) (by decide +kernel), List.mem_of_getElem? (i := 596) (by decide +kernel)⟩
def lw_privs_1 : List (MethodName × Nat) := [(⟨"DroveRoads$Road", "measure", "()V"⟩, 7), (⟨"DroveRoads", "priceKnownAt", "(I)I"⟩, 12), (⟨"DroveRoads", "feedFour", "(I)V"⟩, 12), (⟨"DroveRoads", "findHerd", "(I)LDroveRoads$Herd;"⟩, 12), (⟨"DroveRoads$Lexer", "byteAt", "(I)I"⟩, 6), (⟨"DroveRoads$Lexer", "scanWord", "()V"⟩, 6), (⟨"DroveRoads$Lexer", "wordToken", "()I"⟩, 6), (⟨"DroveRoads$Lexer", "letterAt", "(I)I"⟩, 6), (⟨"DroveRoads$Lexer", "scanNumber", "()V"⟩, 6), (⟨"DroveRoads$Lexer", "scanSign", "(C)V"⟩, 6), (⟨"DroveRoads$Parser", "take", "(I)Z"⟩, 5), (⟨"DroveRoads$Parser", "refuse", "()Z"⟩, 5), (⟨"DroveRoads$Parser", "refuseFor", "(I)Z"⟩, 5), (⟨"DroveRoads$Parser", "readE", "(I)Z"⟩, 5), (⟨"DroveRoads$Parser", "readBoth", "(I)Z"⟩, 5), (⟨"DroveRoads$Parser", "readOne", "(I)Z"⟩, 5)]
theorem lw_r1 : ∀ q ∈ lw_privs_1, lw_okq q := List.forall_mem_cons.mpr ⟨lw_p0, List.forall_mem_cons.mpr ⟨lw_p1, List.forall_mem_cons.mpr ⟨lw_p2, List.forall_mem_cons.mpr ⟨lw_p3, List.forall_mem_cons.mpr ⟨lw_p4, List.forall_mem_cons.mpr ⟨lw_p5, List.forall_mem_cons.mpr ⟨lw_p6, List.forall_mem_cons.mpr ⟨lw_p7, List.forall_mem_cons.mpr ⟨lw_p8, List.forall_mem_cons.mpr ⟨lw_p9, List.forall_mem_cons.mpr ⟨lw_p10, List.forall_mem_cons.mpr ⟨lw_p11, List.forall_mem_cons.mpr ⟨lw_p12, List.forall_mem_cons.mpr ⟨lw_p13, List.forall_mem_cons.mpr ⟨lw_p14, List.forall_mem_cons.mpr ⟨lw_p15, fun _ h => absurd h List.not_mem_nil⟩⟩⟩⟩⟩⟩⟩⟩⟩⟩⟩⟩⟩⟩⟩⟩
theorem lw_p16 : lw_okq (⟨"DroveRoads$Parser", "write", "(I)Z"⟩, 5) := ⟨⟨by decide +kernel, by decide +kernel⟩, List.mem_of_getElem? (i := 368) (by decide +kernel), List.mem_of_getElem? (i := 599) (by decide +kernel), List.mem_of_getElem? (i := 600) (by decide +kernel)⟩
theorem lw_p17 : lw_okq (⟨"DroveRoads$Parser", "readSum", "(I)Z"⟩, 5) := ⟨⟨by decide +kernel, by decide +kernel⟩, List.mem_of_getElem? (i := 368) (by decide +kernel), List.mem_of_getElem? (i := 607) (by decide +kernel), List.mem_of_getElem? (i := 608) (by decide +kernel)⟩
theorem lw_p18 : lw_okq (⟨"DroveRoads$Parser", "readTerm", "(I)Z"⟩, 5) := ⟨⟨by decide +kernel, by decide +kernel⟩, List.mem_of_getElem? (i := 368) (by decide +kernel), List.mem_of_getElem? (i := 611) (by decide +kernel), List.mem_of_getElem? (i := 612) (by decide +kernel)⟩
theorem lw_p19 : lw_okq (⟨"DroveRoads$Parser", "readOperand", "()Z"⟩, 5) := ⟨⟨by decide +kernel, by decide +kernel⟩, List.mem_of_getElem? (i := 368) (by decide +kernel), List.mem_of_getElem? (i := 615) (by decide +kernel), List.mem_of_getElem? (i := 616) (by decide +kernel)⟩
theorem lw_p20 : lw_okq (⟨"DroveRoads$Parser", "readAct", "()Z"⟩, 5) := ⟨⟨by decide +kernel, by decide +kernel⟩, List.mem_of_getElem? (i := 368) (by decide +kernel), List.mem_of_getElem? (i := 620) (by decide +kernel), List.mem_of_getElem? (i := 621) (by decide +kernel)⟩
theorem lw_p21 : lw_okq (⟨"DroveRoads$Parser", "endLine", "(I)Z"⟩, 5) := ⟨⟨by decide +kernel, by decide +kernel⟩, List.mem_of_getElem? (i := 368) (by decide +kernel), List.mem_of_getElem? (i := 624) (by decide +kernel), List.mem_of_getElem? (i := 625) (by decide +kernel)⟩
theorem lw_p22 : lw_okq (⟨"DroveRoads", "passDay", "()V"⟩, 12) := ⟨⟨by decide +kernel, by decide +kernel⟩, List.mem_of_getElem? (i := 20) (by decide +kernel), List.mem_of_getElem? (i := 641) (by decide +kernel), List.mem_of_getElem? (i := 642) (by decide +kernel)⟩
theorem lw_p23 : lw_okq (⟨"DroveRoads", "drive", "(LDroveRoads$Herd;)V"⟩, 12) := ⟨⟨by decide +kernel, by decide +kernel⟩, List.mem_of_getElem? (i := 20) (by decide +kernel), List.mem_of_getElem? (i := 650) (by decide +kernel), List.mem_of_getElem? (i := 651) (by decide +kernel)⟩
theorem lw_p24 : lw_okq (⟨"DroveRoads$Reckoner", "reckon", "([III)I"⟩, 3) := ⟨⟨by decide +kernel, by decide +kernel⟩, List.mem_of_getElem? (i := 139) (by decide +kernel), List.mem_of_getElem? (i := 674) (by decide +kernel), List.mem_of_getElem? (i := 675) (by decide +kernel)⟩
theorem lw_p25 : lw_okq (⟨"DroveRoads$Reckoner", "push", "(I)V"⟩, 3) := ⟨⟨by decide +kernel, by decide +kernel⟩, List.mem_of_getElem? (i := 139) (by decide +kernel), List.mem_of_getElem? (i := 678) (by decide +kernel), List.mem_of_getElem? (i := 679) (by decide +kernel)⟩
theorem lw_p26 : lw_okq (⟨"DroveRoads$Reckoner", "reckonToken", "(I)V"⟩, 3) := ⟨⟨by decide +kernel, by decide +kernel⟩, List.mem_of_getElem? (i := 139) (by decide +kernel), List.mem_of_getElem? (i := 682) (by decide +kernel), List.mem_of_getElem? (i := 683) (by decide +kernel)⟩
theorem lw_p27 : lw_okq (⟨"DroveRoads$Reckoner", "pop", "()I"⟩, 3) := ⟨⟨by decide +kernel, by decide +kernel⟩, List.mem_of_getElem? (i := 139) (by decide +kernel), List.mem_of_getElem? (i := 686) (by decide +kernel), List.mem_of_getElem? (i := 687) (by decide +kernel)⟩
theorem lw_p28 : lw_okq (⟨"DroveRoads", "walkOn", "(LDroveRoads$Herd;)V"⟩, 12) := ⟨⟨by decide +kernel, by decide +kernel⟩, List.mem_of_getElem? (i := 20) (by decide +kernel), List.mem_of_getElem? (i := 693) (by decide +kernel), List.mem_of_getElem? (i := 694) (by decide +kernel)⟩
theorem lw_p29 : lw_okq (⟨"DroveRoads$Herd", "sellHeads", "(I)I"⟩, 12) := ⟨⟨by decide +kernel, by decide +kernel⟩, List.mem_of_getElem? (i := 268) (by decide +kernel), List.mem_of_getElem? (i := 713) (by decide +kernel), List.mem_of_getElem? (i := 714) (by decide +kernel)⟩
theorem lw_p30 : lw_okq (⟨"DroveRoads$Herd", "earn", "(I)V"⟩, 12) := ⟨⟨by decide +kernel, by decide +kernel⟩, List.mem_of_getElem? (i := 268) (by decide +kernel), List.mem_of_getElem? (i := 717) (by decide +kernel), List.mem_of_getElem? (i := 718) (by decide +kernel)⟩
theorem lw_p31 : lw_okq (⟨"DroveRoads", "findWay", "(II)LDroveRoads$LoneWay;"⟩, 12) := ⟨⟨by decide +kernel, by decide +kernel⟩, List.mem_of_getElem? (i := 20) (by decide +kernel), List.mem_of_getElem? (i := 757) (by decide +kernel), List.mem_of_getElem? (i := 758) (by decide +kernel)⟩
def lw_privs_2 : List (MethodName × Nat) := [(⟨"DroveRoads$Parser", "write", "(I)Z"⟩, 5), (⟨"DroveRoads$Parser", "readSum", "(I)Z"⟩, 5), (⟨"DroveRoads$Parser", "readTerm", "(I)Z"⟩, 5), (⟨"DroveRoads$Parser", "readOperand", "()Z"⟩, 5), (⟨"DroveRoads$Parser", "readAct", "()Z"⟩, 5), (⟨"DroveRoads$Parser", "endLine", "(I)Z"⟩, 5), (⟨"DroveRoads", "passDay", "()V"⟩, 12), (⟨"DroveRoads", "drive", "(LDroveRoads$Herd;)V"⟩, 12), (⟨"DroveRoads$Reckoner", "reckon", "([III)I"⟩, 3), (⟨"DroveRoads$Reckoner", "push", "(I)V"⟩, 3), (⟨"DroveRoads$Reckoner", "reckonToken", "(I)V"⟩, 3), (⟨"DroveRoads$Reckoner", "pop", "()I"⟩, 3), (⟨"DroveRoads", "walkOn", "(LDroveRoads$Herd;)V"⟩, 12), (⟨"DroveRoads$Herd", "sellHeads", "(I)I"⟩, 12), (⟨"DroveRoads$Herd", "earn", "(I)V"⟩, 12), (⟨"DroveRoads", "findWay", "(II)LDroveRoads$LoneWay;"⟩, 12)]
theorem lw_r2 : ∀ q ∈ lw_privs_2, lw_okq q := List.forall_mem_cons.mpr ⟨lw_p16, List.forall_mem_cons.mpr ⟨lw_p17, List.forall_mem_cons.mpr ⟨lw_p18, List.forall_mem_cons.mpr ⟨lw_p19, List.forall_mem_cons.mpr ⟨lw_p20, List.forall_mem_cons.mpr ⟨lw_p21, List.forall_mem_cons.mpr ⟨lw_p22, List.forall_mem_cons.mpr ⟨lw_p23, List.forall_mem_cons.mpr ⟨lw_p24, List.forall_mem_cons.mpr ⟨lw_p25, List.forall_mem_cons.mpr ⟨lw_p26, List.forall_mem_cons.mpr ⟨lw_p27, List.forall_mem_cons.mpr ⟨lw_p28, List.forall_mem_cons.mpr ⟨lw_p29, List.forall_mem_cons.mpr ⟨lw_p30, List.forall_mem_cons.mpr ⟨lw_p31, fun _ h => absurd h List.not_mem_nil⟩⟩⟩⟩⟩⟩⟩⟩⟩⟩⟩⟩⟩⟩⟩⟩
theorem lw_p32 : lw_okq (⟨"DroveRoads$LoneWay", "mayWalk", "(II)Z"⟩, 4) := ⟨⟨by decide +kernel, by decide +kernel⟩, List.mem_of_getElem? (i := 761) (by decide +kernel), List.mem_of_getElem? (i := 786) (by decide +kernel), List.mem_of_getElem? (i := 787) (by decide +kernel)⟩
theorem lw_p33 : lw_okq (⟨"DroveRoads$Passings", "placeByDay", "(I)V"⟩, 8) := ⟨⟨by decide +kernel, by decide +kernel⟩, List.mem_of_getElem? (i := 81) (by decide +kernel), List.mem_of_getElem? (i := 840) (by decide +kernel), List.mem_of_getElem? (i := 841) (by decide +kernel)⟩
theorem lw_p34 : lw_okq (⟨"DroveRoads$Passings", "isKnown", "(II)Z"⟩, 8) := ⟨⟨by decide +kernel, by decide +kernel⟩, List.mem_of_getElem? (i := 81) (by decide +kernel), List.mem_of_getElem? (i := 865) (by decide +kernel), List.mem_of_getElem? (i := 866) (by decide +kernel)⟩
theorem lw_p35 : lw_okq (⟨"DroveRoadsModel", "isStance", "(I)Z"⟩, 67) := ⟨⟨by decide +kernel, by decide +kernel⟩, List.mem_of_getElem? (i := 890) (by decide +kernel), List.mem_of_getElem? (i := 1115) (by decide +kernel), List.mem_of_getElem? (i := 1116) (by decide +kernel)⟩
theorem lw_p36 : lw_okq (⟨"DroveRoadsModel", "fair", "()I"⟩, 67) := ⟨⟨by decide +kernel, by decide +kernel⟩, List.mem_of_getElem? (i := 890) (by decide +kernel), List.mem_of_getElem? (i := 1119) (by decide +kernel), List.mem_of_getElem? (i := 1120) (by decide +kernel)⟩
theorem lw_p37 : lw_okq (⟨"DroveRoadsModel", "knownAt", "(II)I"⟩, 67) := ⟨⟨by decide +kernel, by decide +kernel⟩, List.mem_of_getElem? (i := 890) (by decide +kernel), List.mem_of_getElem? (i := 1132) (by decide +kernel), List.mem_of_getElem? (i := 1133) (by decide +kernel)⟩
theorem lw_p38 : lw_okq (⟨"DroveRoadsModel", "toFair", "(I)I"⟩, 67) := ⟨⟨by decide +kernel, by decide +kernel⟩, List.mem_of_getElem? (i := 890) (by decide +kernel), List.mem_of_getElem? (i := 1136) (by decide +kernel), List.mem_of_getElem? (i := 1137) (by decide +kernel)⟩
theorem lw_p39 : lw_okq (⟨"DroveRoadsModel", "isHerd", "(I)Z"⟩, 67) := ⟨⟨by decide +kernel, by decide +kernel⟩, List.mem_of_getElem? (i := 890) (by decide +kernel), List.mem_of_getElem? (i := 1148) (by decide +kernel), List.mem_of_getElem? (i := 1149) (by decide +kernel)⟩
theorem lw_p40 : lw_okq (⟨"DroveRoadsModel", "four", "(I)V"⟩, 67) := ⟨⟨by decide +kernel, by decide +kernel⟩, List.mem_of_getElem? (i := 890) (by decide +kernel), List.mem_of_getElem? (i := 1160) (by decide +kernel), List.mem_of_getElem? (i := 1161) (by decide +kernel)⟩
theorem lw_p41 : lw_okq (⟨"DroveRoadsModel", "next", "()V"⟩, 67) := ⟨⟨by decide +kernel, by decide +kernel⟩, List.mem_of_getElem? (i := 890) (by decide +kernel), List.mem_of_getElem? (i := 1172) (by decide +kernel), List.mem_of_getElem? (i := 1173) (by decide +kernel)⟩
theorem lw_p42 : lw_okq (⟨"DroveRoadsModel", "here", "(I)I"⟩, 67) := ⟨⟨by decide +kernel, by decide +kernel⟩, List.mem_of_getElem? (i := 890) (by decide +kernel), List.mem_of_getElem? (i := 1176) (by decide +kernel), List.mem_of_getElem? (i := 1177) (by decide +kernel)⟩
theorem lw_p43 : lw_okq (⟨"DroveRoadsModel", "isWord", "(J)Z"⟩, 67) := ⟨⟨by decide +kernel, by decide +kernel⟩, List.mem_of_getElem? (i := 890) (by decide +kernel), List.mem_of_getElem? (i := 1190) (by decide +kernel), List.mem_of_getElem? (i := 1191) (by decide +kernel)⟩
theorem lw_p44 : lw_okq (⟨"DroveRoadsModel", "wrong", "(I)V"⟩, 67) := ⟨⟨by decide +kernel, by decide +kernel⟩, List.mem_of_getElem? (i := 890) (by decide +kernel), List.mem_of_getElem? (i := 1194) (by decide +kernel), List.mem_of_getElem? (i := 1195) (by decide +kernel)⟩
theorem lw_p45 : lw_okq (⟨"DroveRoadsModel", "readE", "()V"⟩, 67) := ⟨⟨by decide +kernel, by decide +kernel⟩, List.mem_of_getElem? (i := 890) (by decide +kernel), List.mem_of_getElem? (i := 1198) (by decide +kernel), List.mem_of_getElem? (i := 1199) (by decide +kernel)⟩
theorem lw_p46 : lw_okq (⟨"DroveRoadsModel", "isOpen", "()Z"⟩, 67) := ⟨⟨by decide +kernel, by decide +kernel⟩, List.mem_of_getElem? (i := 890) (by decide +kernel), List.mem_of_getElem? (i := 1203) (by decide +kernel), List.mem_of_getElem? (i := 1204) (by decide +kernel)⟩
theorem lw_p47 : lw_okq (⟨"DroveRoadsModel", "sign", "()I"⟩, 67) := ⟨⟨by decide +kernel, by decide +kernel⟩, List.mem_of_getElem? (i := 890) (by decide +kernel), List.mem_of_getElem? (i := 1207) (by decide +kernel), List.mem_of_getElem? (i := 1208) (by decide +kernel)⟩
def lw_privs_3 : List (MethodName × Nat) := [(⟨"DroveRoads$LoneWay", "mayWalk", "(II)Z"⟩, 4), (⟨"DroveRoads$Passings", "placeByDay", "(I)V"⟩, 8), (⟨"DroveRoads$Passings", "isKnown", "(II)Z"⟩, 8), (⟨"DroveRoadsModel", "isStance", "(I)Z"⟩, 67), (⟨"DroveRoadsModel", "fair", "()I"⟩, 67), (⟨"DroveRoadsModel", "knownAt", "(II)I"⟩, 67), (⟨"DroveRoadsModel", "toFair", "(I)I"⟩, 67), (⟨"DroveRoadsModel", "isHerd", "(I)Z"⟩, 67), (⟨"DroveRoadsModel", "four", "(I)V"⟩, 67), (⟨"DroveRoadsModel", "next", "()V"⟩, 67), (⟨"DroveRoadsModel", "here", "(I)I"⟩, 67), (⟨"DroveRoadsModel", "isWord", "(J)Z"⟩, 67), (⟨"DroveRoadsModel", "wrong", "(I)V"⟩, 67), (⟨"DroveRoadsModel", "readE", "()V"⟩, 67), (⟨"DroveRoadsModel", "isOpen", "()Z"⟩, 67), (⟨"DroveRoadsModel", "sign", "()I"⟩, 67)]
theorem lw_r3 : ∀ q ∈ lw_privs_3, lw_okq q := List.forall_mem_cons.mpr ⟨lw_p32, List.forall_mem_cons.mpr ⟨lw_p33, List.forall_mem_cons.mpr ⟨lw_p34, List.forall_mem_cons.mpr ⟨lw_p35, List.forall_mem_cons.mpr ⟨lw_p36, List.forall_mem_cons.mpr ⟨lw_p37, List.forall_mem_cons.mpr ⟨lw_p38, List.forall_mem_cons.mpr ⟨lw_p39, List.forall_mem_cons.mpr ⟨lw_p40, List.forall_mem_cons.mpr ⟨lw_p41, List.forall_mem_cons.mpr ⟨lw_p42, List.forall_mem_cons.mpr ⟨lw_p43, List.forall_mem_cons.mpr ⟨lw_p44, List.forall_mem_cons.mpr ⟨lw_p45, List.forall_mem_cons.mpr ⟨lw_p46, List.forall_mem_cons.mpr ⟨lw_p47, fun _ h => absurd h List.not_mem_nil⟩⟩⟩⟩⟩⟩⟩⟩⟩⟩⟩⟩⟩⟩⟩⟩
theorem lw_p48 : lw_okq (⟨"DroveRoadsModel", "settle", "(I)V"⟩, 67) := ⟨⟨by decide +kernel, by decide +kernel⟩, List.mem_of_getElem? (i := 890) (by decide +kernel), List.mem_of_getElem? (i := 1211) (by decide +kernel), List.mem_of_getElem? (i := 1212) (by decide +kernel)⟩
theorem lw_p49 : lw_okq (⟨"DroveRoadsModel", "pop", "()V"⟩, 67) := ⟨⟨by decide +kernel, by decide +kernel⟩, List.mem_of_getElem? (i := 890) (by decide +kernel), List.mem_of_getElem? (i := 1215) (by decide +kernel), List.mem_of_getElem? (i := 1216) (by decide +kernel)⟩
theorem lw_p50 : lw_okq (⟨"DroveRoadsModel", "step", "(II)V"⟩, 67) := ⟨⟨by decide +kernel, by decide +kernel⟩, List.mem_of_getElem? (i := 890) (by decide +kernel), List.mem_of_getElem? (i := 1219) (by decide +kernel), List.mem_of_getElem? (i := 1220) (by decide +kernel)⟩
theorem lw_p51 : lw_okq (⟨"DroveRoadsModel", "hold", "(I)V"⟩, 67) := ⟨⟨by decide +kernel, by decide +kernel⟩, List.mem_of_getElem? (i := 890) (by decide +kernel), List.mem_of_getElem? (i := 1223) (by decide +kernel), List.mem_of_getElem? (i := 1224) (by decide +kernel)⟩
theorem lw_p52 : lw_okq (⟨"DroveRoadsModel", "settleOnes", "(Z)V"⟩, 67) := ⟨⟨by decide +kernel, by decide +kernel⟩, List.mem_of_getElem? (i := 890) (by decide +kernel), List.mem_of_getElem? (i := 1229) (by decide +kernel), List.mem_of_getElem? (i := 1230) (by decide +kernel)⟩
theorem lw_p53 : lw_okq (⟨"DroveRoadsModel", "operand", "(I)I"⟩, 67) := ⟨⟨by decide +kernel, by decide +kernel⟩, List.mem_of_getElem? (i := 890) (by decide +kernel), List.mem_of_getElem? (i := 1233) (by decide +kernel), List.mem_of_getElem? (i := 1234) (by decide +kernel)⟩
theorem lw_p54 : lw_okq (⟨"DroveRoadsModel", "isKey", "()Z"⟩, 67) := ⟨⟨by decide +kernel, by decide +kernel⟩, List.mem_of_getElem? (i := 890) (by decide +kernel), List.mem_of_getElem? (i := 1237) (by decide +kernel), List.mem_of_getElem? (i := 1238) (by decide +kernel)⟩
theorem lw_p55 : lw_okq (⟨"DroveRoadsModel", "named", "()I"⟩, 67) := ⟨⟨by decide +kernel, by decide +kernel⟩, List.mem_of_getElem? (i := 890) (by decide +kernel), List.mem_of_getElem? (i := 1245) (by decide +kernel), List.mem_of_getElem? (i := 1246) (by decide +kernel)⟩
theorem lw_p56 : lw_okq (⟨"DroveRoadsModel", "readAct", "()V"⟩, 67) := ⟨⟨by decide +kernel, by decide +kernel⟩, List.mem_of_getElem? (i := 890) (by decide +kernel), List.mem_of_getElem? (i := 1258) (by decide +kernel), List.mem_of_getElem? (i := 1259) (by decide +kernel)⟩
theorem lw_p57 : lw_okq (⟨"DroveRoadsModel", "go", "(I)V"⟩, 67) := ⟨⟨by decide +kernel, by decide +kernel⟩, List.mem_of_getElem? (i := 890) (by decide +kernel), List.mem_of_getElem? (i := 1270) (by decide +kernel), List.mem_of_getElem? (i := 1271) (by decide +kernel)⟩
theorem lw_p58 : lw_okq (⟨"DroveRoadsModel", "holds", "(II)Z"⟩, 67) := ⟨⟨by decide +kernel, by decide +kernel⟩, List.mem_of_getElem? (i := 890) (by decide +kernel), List.mem_of_getElem? (i := 1274) (by decide +kernel), List.mem_of_getElem? (i := 1275) (by decide +kernel)⟩
theorem lw_p59 : lw_okq (⟨"DroveRoadsModel", "earn", "(IIII)V"⟩, 67) := ⟨⟨by decide +kernel, by decide +kernel⟩, List.mem_of_getElem? (i := 890) (by decide +kernel), List.mem_of_getElem? (i := 1278) (by decide +kernel), List.mem_of_getElem? (i := 1279) (by decide +kernel)⟩
theorem lw_p60 : lw_okq (⟨"DroveRoadsModel", "rest", "(I)V"⟩, 67) := ⟨⟨by decide +kernel, by decide +kernel⟩, List.mem_of_getElem? (i := 890) (by decide +kernel), List.mem_of_getElem? (i := 1284) (by decide +kernel), List.mem_of_getElem? (i := 1285) (by decide +kernel)⟩
theorem lw_p61 : lw_okq (⟨"DroveRoadsModel", "walk", "(I)V"⟩, 67) := ⟨⟨by decide +kernel, by decide +kernel⟩, List.mem_of_getElem? (i := 890) (by decide +kernel), List.mem_of_getElem? (i := 1288) (by decide +kernel), List.mem_of_getElem? (i := 1289) (by decide +kernel)⟩
theorem lw_p62 : lw_okq (⟨"DroveRoadsModel", "eat", "(IZ)V"⟩, 67) := ⟨⟨by decide +kernel, by decide +kernel⟩, List.mem_of_getElem? (i := 890) (by decide +kernel), List.mem_of_getElem? (i := 1292) (by decide +kernel), List.mem_of_getElem? (i := 1293) (by decide +kernel)⟩
theorem lw_p63 : lw_okq (⟨"DroveRoadsModel", "fill", "(II)Z"⟩, 67) := ⟨⟨by decide +kernel, by decide +kernel⟩, List.mem_of_getElem? (i := 890) (by decide +kernel), List.mem_of_getElem? (i := 1300) (by decide +kernel), List.mem_of_getElem? (i := 1301) (by decide +kernel)⟩
def lw_privs_4 : List (MethodName × Nat) := [(⟨"DroveRoadsModel", "settle", "(I)V"⟩, 67), (⟨"DroveRoadsModel", "pop", "()V"⟩, 67), (⟨"DroveRoadsModel", "step", "(II)V"⟩, 67), (⟨"DroveRoadsModel", "hold", "(I)V"⟩, 67), (⟨"DroveRoadsModel", "settleOnes", "(Z)V"⟩, 67), (⟨"DroveRoadsModel", "operand", "(I)I"⟩, 67), (⟨"DroveRoadsModel", "isKey", "()Z"⟩, 67), (⟨"DroveRoadsModel", "named", "()I"⟩, 67), (⟨"DroveRoadsModel", "readAct", "()V"⟩, 67), (⟨"DroveRoadsModel", "go", "(I)V"⟩, 67), (⟨"DroveRoadsModel", "holds", "(II)Z"⟩, 67), (⟨"DroveRoadsModel", "earn", "(IIII)V"⟩, 67), (⟨"DroveRoadsModel", "rest", "(I)V"⟩, 67), (⟨"DroveRoadsModel", "walk", "(I)V"⟩, 67), (⟨"DroveRoadsModel", "eat", "(IZ)V"⟩, 67), (⟨"DroveRoadsModel", "fill", "(II)Z"⟩, 67)]
theorem lw_r4 : ∀ q ∈ lw_privs_4, lw_okq q := List.forall_mem_cons.mpr ⟨lw_p48, List.forall_mem_cons.mpr ⟨lw_p49, List.forall_mem_cons.mpr ⟨lw_p50, List.forall_mem_cons.mpr ⟨lw_p51, List.forall_mem_cons.mpr ⟨lw_p52, List.forall_mem_cons.mpr ⟨lw_p53, List.forall_mem_cons.mpr ⟨lw_p54, List.forall_mem_cons.mpr ⟨lw_p55, List.forall_mem_cons.mpr ⟨lw_p56, List.forall_mem_cons.mpr ⟨lw_p57, List.forall_mem_cons.mpr ⟨lw_p58, List.forall_mem_cons.mpr ⟨lw_p59, List.forall_mem_cons.mpr ⟨lw_p60, List.forall_mem_cons.mpr ⟨lw_p61, List.forall_mem_cons.mpr ⟨lw_p62, List.forall_mem_cons.mpr ⟨lw_p63, fun _ h => absurd h List.not_mem_nil⟩⟩⟩⟩⟩⟩⟩⟩⟩⟩⟩⟩⟩⟩⟩⟩
theorem lw_p64 : lw_okq (⟨"DroveRoadsModel", "isBill", "(I)Z"⟩, 67) := ⟨⟨by decide +kernel, by decide +kernel⟩, List.mem_of_getElem? (i := 890) (by decide +kernel), List.mem_of_getElem? (i := 1328) (by decide +kernel), List.mem_of_getElem? (i := 1329) (by decide +kernel)⟩
def lw_privs_5 : List (MethodName × Nat) := [(⟨"DroveRoadsModel", "isBill", "(I)Z"⟩, 67)]
theorem lw_r5 : ∀ q ∈ lw_privs_5, lw_okq q := List.forall_mem_cons.mpr ⟨lw_p64, fun _ h => absurd h List.not_mem_nil⟩
def lw_privs : List (MethodName × Nat) := lw_privs_1 ++ (lw_privs_2 ++ (lw_privs_3 ++ (lw_privs_4 ++ (lw_privs_5))))
def lw_tbl : List Cond := k2_sels lw_privs ++ tables_1
theorem lw_privs_ok : ∀ q ∈ lw_privs, lw_okq q := by
  show ∀ q ∈ lw_privs_1 ++ (lw_privs_2 ++ (lw_privs_3 ++ (lw_privs_4 ++ (lw_privs_5)))), lw_okq q
  exact List.forall_mem_append.mpr ⟨lw_r1, List.forall_mem_append.mpr ⟨lw_r2, List.forall_mem_append.mpr ⟨lw_r3, List.forall_mem_append.mpr ⟨lw_r4, lw_r5⟩⟩⟩⟩
def RX0 : String := "DroveRoads$Bills"
def TX0 : u_T := fun k => match k with
  | 0 => ("DroveRoads$Bills", "count", "I", false)
  | 1 => ("DroveRoads$Bills", "passings", "LDroveRoads$Passings;", true)
  | 2 => ("DroveRoads$Bills", "amounts", "[I", true)
  | 3 => ("DroveRoads$Bills", "hands", "[I", true)
  | 4 => ("DroveRoads$Bills", "dueOn", "[I", true)
  | 5 => ("DroveRoads$Bills", "paidOn", "[I", true)
  | _ => ("DroveRoads$Bills", "paidTo", "[I", true)
def tyX0 : Nat → FieldType := fun k => match k with
  | 0 => .int
  | 1 => .object "DroveRoads$Passings"
  | 2 => .array .int
  | 3 => .array .int
  | 4 => .array .int
  | 5 => .array .int
  | _ => .array .int
theorem nmX0 : ∀ a, a < 7 → ∀ b, b < 7 → a ≠ b → (TX0 a).2.1 ≠ (TX0 b).2.1 := by decide +kernel
theorem tyX0_ok : ∀ k, k < 7 → parseFieldDescriptor (TX0 k).2.2.1 = some (tyX0 k) := by decide +kernel
abbrev cX0_init : ByteArray := prog_2_method_1_code
def yX0_init : MethodName := ⟨RX0, "<init>", "()V"⟩
abbrev cX0_has : ByteArray := prog_2_method_2_code
def yX0_has : MethodName := ⟨RX0, "has", "(I)Z"⟩
abbrev cX0_make : ByteArray := prog_2_method_3_code
def yX0_make : MethodName := ⟨RX0, "make", "(III)I"⟩
abbrev cX0_holderKnown : ByteArray := prog_2_method_4_code
def yX0_holderKnown : MethodName := ⟨RX0, "holderKnown", "(III)I"⟩
abbrev cX0_settle : ByteArray := prog_2_method_5_code
def yX0_settle : MethodName := ⟨RX0, "settle", "(II)I"⟩
abbrev cX0_tell : ByteArray := prog_2_method_6_code
def yX0_tell : MethodName := ⟨RX0, "tell", "(II)I"⟩
def RX1 : String := "DroveRoads$Herd"
def TX1 : u_T := fun k => match k with
  | 0 => ("DroveRoads$Herd", "need", "I", true)
  | 1 => ("DroveRoads$Herd", "start", "I", true)
  | 2 => ("DroveRoads$Herd", "heads", "I", false)
  | 3 => ("DroveRoads$Herd", "weight", "I", false)
  | 4 => ("DroveRoads$Herd", "sore", "I", false)
  | 5 => ("DroveRoads$Herd", "stance", "I", false)
  | 6 => ("DroveRoads$Herd", "orders", "LDroveRoads$Orders;", false)
  | 7 => ("DroveRoads$Herd", "coins", "I", false)
  | 8 => ("DroveRoads$Herd", "left", "I", false)
  | 9 => ("DroveRoads$Herd", "sold", "I", false)
  | 10 => ("DroveRoads$Herd", "dead", "I", false)
  | _ => ("DroveRoads$Herd", "ate", "I", false)
def tyX1 : Nat → FieldType := fun k => match k with
  | 0 => .int
  | 1 => .int
  | 2 => .int
  | 3 => .int
  | 4 => .int
  | 5 => .int
  | 6 => .object "DroveRoads$Orders"
  | 7 => .int
  | 8 => .int
  | 9 => .int
  | 10 => .int
  | _ => .int
theorem nmX1 : ∀ a, a < 12 → ∀ b, b < 12 → a ≠ b → (TX1 a).2.1 ≠ (TX1 b).2.1 := by decide +kernel
theorem tyX1_ok : ∀ k, k < 12 → parseFieldDescriptor (TX1 k).2.2.1 = some (tyX1 k) := by decide +kernel
abbrev cX1_init : ByteArray := prog_3_method_1_code
def yX1_init : MethodName := ⟨RX1, "<init>", "(IIII)V"⟩
abbrev cX1_want : ByteArray := prog_3_method_2_code
def yX1_want : MethodName := ⟨RX1, "want", "()I"⟩
abbrev cX1_sellOnTheWay : ByteArray := prog_3_method_3_code
def yX1_sellOnTheWay : MethodName := ⟨RX1, "sellOnTheWay", "(II)V"⟩
abbrev cX1_sellAtFair : ByteArray := prog_3_method_4_code
def yX1_sellAtFair : MethodName := ⟨RX1, "sellAtFair", "(I)V"⟩
abbrev cX1_sellHeads : ByteArray := prog_3_method_5_code
def yX1_sellHeads : MethodName := ⟨RX1, "sellHeads", "(I)I"⟩
abbrev cX1_earn : ByteArray := prog_3_method_6_code
def yX1_earn : MethodName := ⟨RX1, "earn", "(I)V"⟩
abbrev cX1_walk : ByteArray := prog_3_method_7_code
def yX1_walk : MethodName := ⟨RX1, "walk", "(I)I"⟩
abbrev cX1_eat : ByteArray := prog_3_method_8_code
def yX1_eat : MethodName := ⟨RX1, "eat", "(IZ)V"⟩
abbrev cX1_tell : ByteArray := prog_3_method_9_code
def yX1_tell : MethodName := ⟨RX1, "tell", "(I)I"⟩
def RX2 : String := "DroveRoads$Letters"
def TX2 : u_T := fun k => match k with
  | 0 => ("DroveRoads$Letters", "count", "I", false)
  | 1 => ("DroveRoads$Letters", "prices", "[I", true)
  | _ => ("DroveRoads$Letters", "sentOn", "[I", true)
def tyX2 : Nat → FieldType := fun k => match k with
  | 0 => .int
  | 1 => .array .int
  | _ => .array .int
theorem nmX2 : ∀ a, a < 3 → ∀ b, b < 3 → a ≠ b → (TX2 a).2.1 ≠ (TX2 b).2.1 := by decide +kernel
theorem tyX2_ok : ∀ k, k < 3 → parseFieldDescriptor (TX2 k).2.2.1 = some (tyX2 k) := by decide +kernel
abbrev cX2_init : ByteArray := prog_4_method_1_code
def yX2_init : MethodName := ⟨RX2, "<init>", "()V"⟩
abbrev cX2_send : ByteArray := prog_4_method_2_code
def yX2_send : MethodName := ⟨RX2, "send", "(II)I"⟩
abbrev cX2_priceKnown : ByteArray := prog_4_method_3_code
def yX2_priceKnown : MethodName := ⟨RX2, "priceKnown", "(II)I"⟩
def RX3 : String := "DroveRoads$Lexer"
def TX3 : u_T := fun k => match k with
  | 0 => ("DroveRoads$Lexer", "token", "I", false)
  | 1 => ("DroveRoads$Lexer", "place", "I", false)
  | 2 => ("DroveRoads$Lexer", "number", "I", false)
  | 3 => ("DroveRoads$Lexer", "text", "[B", true)
  | 4 => ("DroveRoads$Lexer", "length", "I", true)
  | _ => ("DroveRoads$Lexer", "next", "I", false)
def tyX3 : Nat → FieldType := fun k => match k with
  | 0 => .int
  | 1 => .int
  | 2 => .int
  | 3 => .array .byte
  | 4 => .int
  | _ => .int
theorem nmX3 : ∀ a, a < 6 → ∀ b, b < 6 → a ≠ b → (TX3 a).2.1 ≠ (TX3 b).2.1 := by decide +kernel
theorem tyX3_ok : ∀ k, k < 6 → parseFieldDescriptor (TX3 k).2.2.1 = some (tyX3 k) := by decide +kernel
abbrev cX3_init : ByteArray := prog_5_method_1_code
def yX3_init : MethodName := ⟨RX3, "<init>", "([BI)V"⟩
abbrev cX3_advance : ByteArray := prog_5_method_2_code
def yX3_advance : MethodName := ⟨RX3, "advance", "()V"⟩
abbrev cX3_scanWord : ByteArray := prog_5_method_3_code
def yX3_scanWord : MethodName := ⟨RX3, "scanWord", "()V"⟩
abbrev cX3_scanNumber : ByteArray := prog_5_method_4_code
def yX3_scanNumber : MethodName := ⟨RX3, "scanNumber", "()V"⟩
abbrev cX3_scanSign : ByteArray := prog_5_method_5_code
def yX3_scanSign : MethodName := ⟨RX3, "scanSign", "(C)V"⟩
abbrev cX3_wordToken : ByteArray := prog_5_method_6_code
def yX3_wordToken : MethodName := ⟨RX3, "wordToken", "()I"⟩
abbrev cX3_letterAt : ByteArray := prog_5_method_7_code
def yX3_letterAt : MethodName := ⟨RX3, "letterAt", "(I)I"⟩
abbrev cX3_byteAt : ByteArray := prog_5_method_8_code
def yX3_byteAt : MethodName := ⟨RX3, "byteAt", "(I)I"⟩
abbrev cX3_isBlank : ByteArray := prog_5_method_9_code
def yX3_isBlank : MethodName := ⟨RX3, "isBlank", "(I)Z"⟩
abbrev cX3_isLetter : ByteArray := prog_5_method_10_code
def yX3_isLetter : MethodName := ⟨RX3, "isLetter", "(I)Z"⟩
abbrev cX3_isDigit : ByteArray := prog_5_method_11_code
def yX3_isDigit : MethodName := ⟨RX3, "isDigit", "(I)Z"⟩
def RX4 : String := "DroveRoads$LoneWay"
def TX4 : u_T := fun k => match k with
  | 0 => ("DroveRoads$LoneWay", "days", "I", true)
  | 1 => ("DroveRoads$LoneWay", "road", "LDroveRoads$Road;", true)
  | 2 => ("DroveRoads$LoneWay", "startStance", "I", true)
  | _ => ("DroveRoads$LoneWay", "startSore", "I", true)
def tyX4 : Nat → FieldType := fun k => match k with
  | 0 => .int
  | 1 => .object "DroveRoads$Road"
  | 2 => .int
  | _ => .int
theorem nmX4 : ∀ a, a < 4 → ∀ b, b < 4 → a ≠ b → (TX4 a).2.1 ≠ (TX4 b).2.1 := by decide +kernel
theorem tyX4_ok : ∀ k, k < 4 → parseFieldDescriptor (TX4 k).2.2.1 = some (tyX4 k) := by decide +kernel
abbrev cX4_init : ByteArray := prog_6_method_1_code
def yX4_init : MethodName := ⟨RX4, "<init>", "(LDroveRoads$Road;III)V"⟩
abbrev cX4_comesToFair : ByteArray := prog_6_method_2_code
def yX4_comesToFair : MethodName := ⟨RX4, "comesToFair", "()Z"⟩
abbrev cX4_bestGain : ByteArray := prog_6_method_3_code
def yX4_bestGain : MethodName := ⟨RX4, "bestGain", "()I"⟩
abbrev cX4_bestAct : ByteArray := prog_6_method_4_code
def yX4_bestAct : MethodName := ⟨RX4, "bestAct", "(I)I"⟩
abbrev cX4_mayWalk : ByteArray := prog_6_method_5_code
def yX4_mayWalk : MethodName := ⟨RX4, "mayWalk", "(II)Z"⟩
abbrev cX4_rested : ByteArray := prog_6_method_6_code
def yX4_rested : MethodName := ⟨RX4, "rested", "(I)I"⟩
def RX5 : String := "DroveRoads$Orders"
def TX5 : u_T := fun k => match k with
  | 0 => ("DroveRoads$Orders", "cells", "[I", true)
  | 1 => ("DroveRoads$Orders", "cellsEnd", "[I", true)
  | 2 => ("DroveRoads$Orders", "acts", "[I", true)
  | 3 => ("DroveRoads$Orders", "lines", "I", false)
  | _ => ("DroveRoads$Orders", "cellCount", "I", false)
def tyX5 : Nat → FieldType := fun k => match k with
  | 0 => .array .int
  | 1 => .array .int
  | 2 => .array .int
  | 3 => .int
  | _ => .int
theorem nmX5 : ∀ a, a < 5 → ∀ b, b < 5 → a ≠ b → (TX5 a).2.1 ≠ (TX5 b).2.1 := by decide +kernel
theorem tyX5_ok : ∀ k, k < 5 → parseFieldDescriptor (TX5 k).2.2.1 = some (tyX5 k) := by decide +kernel
abbrev cX5_init : ByteArray := prog_7_method_1_code
def yX5_init : MethodName := ⟨RX5, "<init>", "()V"⟩
abbrev cX5_clear : ByteArray := prog_7_method_2_code
def yX5_clear : MethodName := ⟨RX5, "clear", "()V"⟩
abbrev cX5_addCell : ByteArray := prog_7_method_3_code
def yX5_addCell : MethodName := ⟨RX5, "addCell", "(I)V"⟩
abbrev cX5_addLine : ByteArray := prog_7_method_4_code
def yX5_addLine : MethodName := ⟨RX5, "addLine", "(I)V"⟩
def RX6 : String := "DroveRoads$Parser"
def TX6 : u_T := fun k => match k with
  | 0 => ("DroveRoads$Parser", "fault", "I", false)
  | 1 => ("DroveRoads$Parser", "faultPlace", "I", false)
  | 2 => ("DroveRoads$Parser", "lexer", "LDroveRoads$Lexer;", true)
  | 3 => ("DroveRoads$Parser", "written", "LDroveRoads$Orders;", true)
  | _ => ("DroveRoads$Parser", "operands", "I", false)
def tyX6 : Nat → FieldType := fun k => match k with
  | 0 => .int
  | 1 => .int
  | 2 => .object "DroveRoads$Lexer"
  | 3 => .object "DroveRoads$Orders"
  | _ => .int
theorem nmX6 : ∀ a, a < 5 → ∀ b, b < 5 → a ≠ b → (TX6 a).2.1 ≠ (TX6 b).2.1 := by decide +kernel
theorem tyX6_ok : ∀ k, k < 5 → parseFieldDescriptor (TX6 k).2.2.1 = some (tyX6 k) := by decide +kernel
abbrev cX6_init : ByteArray := prog_8_method_1_code
def yX6_init : MethodName := ⟨RX6, "<init>", "([BILDroveRoads$Orders;)V"⟩
abbrev cX6_read : ByteArray := prog_8_method_2_code
def yX6_read : MethodName := ⟨RX6, "read", "()Z"⟩
abbrev cX6_readAct : ByteArray := prog_8_method_3_code
def yX6_readAct : MethodName := ⟨RX6, "readAct", "()Z"⟩
abbrev cX6_endLine : ByteArray := prog_8_method_4_code
def yX6_endLine : MethodName := ⟨RX6, "endLine", "(I)Z"⟩
abbrev cX6_readE : ByteArray := prog_8_method_5_code
def yX6_readE : MethodName := ⟨RX6, "readE", "(I)Z"⟩
abbrev cX6_readBoth : ByteArray := prog_8_method_6_code
def yX6_readBoth : MethodName := ⟨RX6, "readBoth", "(I)Z"⟩
abbrev cX6_readOne : ByteArray := prog_8_method_7_code
def yX6_readOne : MethodName := ⟨RX6, "readOne", "(I)Z"⟩
abbrev cX6_readSum : ByteArray := prog_8_method_8_code
def yX6_readSum : MethodName := ⟨RX6, "readSum", "(I)Z"⟩
abbrev cX6_readTerm : ByteArray := prog_8_method_9_code
def yX6_readTerm : MethodName := ⟨RX6, "readTerm", "(I)Z"⟩
abbrev cX6_readOperand : ByteArray := prog_8_method_10_code
def yX6_readOperand : MethodName := ⟨RX6, "readOperand", "()Z"⟩
abbrev cX6_take : ByteArray := prog_8_method_11_code
def yX6_take : MethodName := ⟨RX6, "take", "(I)Z"⟩
abbrev cX6_write : ByteArray := prog_8_method_12_code
def yX6_write : MethodName := ⟨RX6, "write", "(I)Z"⟩
abbrev cX6_refuse : ByteArray := prog_8_method_13_code
def yX6_refuse : MethodName := ⟨RX6, "refuse", "()Z"⟩
abbrev cX6_refuseFor : ByteArray := prog_8_method_14_code
def yX6_refuseFor : MethodName := ⟨RX6, "refuseFor", "(I)Z"⟩
def RX7 : String := "DroveRoads$Passings"
def TX7 : u_T := fun k => match k with
  | 0 => ("DroveRoads$Passings", "count", "I", false)
  | 1 => ("DroveRoads$Passings", "billOf", "[I", true)
  | 2 => ("DroveRoads$Passings", "fromHand", "[I", true)
  | 3 => ("DroveRoads$Passings", "toHand", "[I", true)
  | 4 => ("DroveRoads$Passings", "passedOn", "[I", true)
  | 5 => ("DroveRoads$Passings", "toldOn", "[I", true)
  | 6 => ("DroveRoads$Passings", "untoldOn", "[I", true)
  | _ => ("DroveRoads$Passings", "byDay", "[I", true)
def tyX7 : Nat → FieldType := fun k => match k with
  | 0 => .int
  | 1 => .array .int
  | 2 => .array .int
  | 3 => .array .int
  | 4 => .array .int
  | 5 => .array .int
  | 6 => .array .int
  | _ => .array .int
theorem nmX7 : ∀ a, a < 8 → ∀ b, b < 8 → a ≠ b → (TX7 a).2.1 ≠ (TX7 b).2.1 := by decide +kernel
theorem tyX7_ok : ∀ k, k < 8 → parseFieldDescriptor (TX7 k).2.2.1 = some (tyX7 k) := by decide +kernel
abbrev cX7_init : ByteArray := prog_9_method_1_code
def yX7_init : MethodName := ⟨RX7, "<init>", "()V"⟩
abbrev cX7_isHand : ByteArray := prog_9_method_2_code
def yX7_isHand : MethodName := ⟨RX7, "isHand", "(I)Z"⟩
abbrev cX7_add : ByteArray := prog_9_method_3_code
def yX7_add : MethodName := ⟨RX7, "add", "(IIIII)I"⟩
abbrev cX7_placeByDay : ByteArray := prog_9_method_4_code
def yX7_placeByDay : MethodName := ⟨RX7, "placeByDay", "(I)V"⟩
abbrev cX7_takeBack : ByteArray := prog_9_method_5_code
def yX7_takeBack : MethodName := ⟨RX7, "takeBack", "(II)Z"⟩
abbrev cX7_follow : ByteArray := prog_9_method_6_code
def yX7_follow : MethodName := ⟨RX7, "follow", "(IIII)I"⟩
abbrev cX7_isKnown : ByteArray := prog_9_method_7_code
def yX7_isKnown : MethodName := ⟨RX7, "isKnown", "(II)Z"⟩
def RX8 : String := "DroveRoads$Reckoner"
def TX8 : u_T := fun k => match k with
  | 0 => ("DroveRoads$Reckoner", "nameValues", "[I", true)
  | 1 => ("DroveRoads$Reckoner", "stack", "[I", true)
  | _ => ("DroveRoads$Reckoner", "top", "I", false)
def tyX8 : Nat → FieldType := fun k => match k with
  | 0 => .array .int
  | 1 => .array .int
  | _ => .int
theorem nmX8 : ∀ a, a < 3 → ∀ b, b < 3 → a ≠ b → (TX8 a).2.1 ≠ (TX8 b).2.1 := by decide +kernel
theorem tyX8_ok : ∀ k, k < 3 → parseFieldDescriptor (TX8 k).2.2.1 = some (tyX8 k) := by decide +kernel
abbrev cX8_init : ByteArray := prog_10_method_1_code
def yX8_init : MethodName := ⟨RX8, "<init>", "()V"⟩
abbrev cX8_learn : ByteArray := prog_10_method_2_code
def yX8_learn : MethodName := ⟨RX8, "learn", "(LDroveRoads$Herd;LDroveRoads$Road;II)V"⟩
abbrev cX8_choose : ByteArray := prog_10_method_3_code
def yX8_choose : MethodName := ⟨RX8, "choose", "(LDroveRoads$Orders;)I"⟩
abbrev cX8_reckon : ByteArray := prog_10_method_4_code
def yX8_reckon : MethodName := ⟨RX8, "reckon", "([III)I"⟩
abbrev cX8_reckonToken : ByteArray := prog_10_method_5_code
def yX8_reckonToken : MethodName := ⟨RX8, "reckonToken", "(I)V"⟩
abbrev cX8_join : ByteArray := prog_10_method_6_code
def yX8_join : MethodName := ⟨RX8, "join", "(III)I"⟩
abbrev cX8_push : ByteArray := prog_10_method_7_code
def yX8_push : MethodName := ⟨RX8, "push", "(I)V"⟩
abbrev cX8_pop : ByteArray := prog_10_method_8_code
def yX8_pop : MethodName := ⟨RX8, "pop", "()I"⟩
def RX9 : String := "DroveRoads$Road"
def TX9 : u_T := fun k => match k with
  | 0 => ("DroveRoads$Road", "stances", "I", false)
  | 1 => ("DroveRoads$Road", "stageMiles", "[I", true)
  | 2 => ("DroveRoads$Road", "toFair", "[I", true)
  | 3 => ("DroveRoads$Road", "grassNow", "[I", true)
  | 4 => ("DroveRoads$Road", "grassGrows", "[I", true)
  | 5 => ("DroveRoads$Road", "grassMost", "[I", true)
  | _ => ("DroveRoads$Road", "leftBefore", "[I", true)
def tyX9 : Nat → FieldType := fun k => match k with
  | 0 => .int
  | 1 => .array .int
  | 2 => .array .int
  | 3 => .array .int
  | 4 => .array .int
  | 5 => .array .int
  | _ => .array .int
theorem nmX9 : ∀ a, a < 7 → ∀ b, b < 7 → a ≠ b → (TX9 a).2.1 ≠ (TX9 b).2.1 := by decide +kernel
theorem tyX9_ok : ∀ k, k < 7 → parseFieldDescriptor (TX9 k).2.2.1 = some (tyX9 k) := by decide +kernel
abbrev cX9_init : ByteArray := prog_11_method_1_code
def yX9_init : MethodName := ⟨RX9, "<init>", "()V"⟩
abbrev cX9_canBeMiles : ByteArray := prog_11_method_2_code
def yX9_canBeMiles : MethodName := ⟨RX9, "canBeMiles", "(I)Z"⟩
abbrev cX9_has : ByteArray := prog_11_method_3_code
def yX9_has : MethodName := ⟨RX9, "has", "(I)Z"⟩
abbrev cX9_fair : ByteArray := prog_11_method_4_code
def yX9_fair : MethodName := ⟨RX9, "fair", "()I"⟩
abbrev cX9_lengthen : ByteArray := prog_11_method_5_code
def yX9_lengthen : MethodName := ⟨RX9, "lengthen", "(I)I"⟩
abbrev cX9_setFirstMiles : ByteArray := prog_11_method_6_code
def yX9_setFirstMiles : MethodName := ⟨RX9, "setFirstMiles", "(I)V"⟩
abbrev cX9_measure : ByteArray := prog_11_method_7_code
def yX9_measure : MethodName := ⟨RX9, "measure", "()V"⟩
abbrev cX9_milesOfStage : ByteArray := prog_11_method_8_code
def yX9_milesOfStage : MethodName := ⟨RX9, "milesOfStage", "(I)I"⟩
abbrev cX9_milesToFair : ByteArray := prog_11_method_9_code
def yX9_milesToFair : MethodName := ⟨RX9, "milesToFair", "(I)I"⟩
abbrev cX9_grassAt : ByteArray := prog_11_method_10_code
def yX9_grassAt : MethodName := ⟨RX9, "grassAt", "(I)I"⟩
abbrev cX9_sow : ByteArray := prog_11_method_11_code
def yX9_sow : MethodName := ⟨RX9, "sow", "(IIII)Z"⟩
abbrev cX9_grow : ByteArray := prog_11_method_12_code
def yX9_grow : MethodName := ⟨RX9, "grow", "()V"⟩
abbrev cX9_graze : ByteArray := prog_11_method_13_code
def yX9_graze : MethodName := ⟨RX9, "graze", "(II)I"⟩
abbrev cX9_noteLeft : ByteArray := prog_11_method_14_code
def yX9_noteLeft : MethodName := ⟨RX9, "noteLeft", "(II)V"⟩
abbrev cX9_tell : ByteArray := prog_11_method_15_code
def yX9_tell : MethodName := ⟨RX9, "tell", "(II)I"⟩
def RX10 : String := "DroveRoads"
def TX10 : u_T := fun k => match k with
  | 0 => ("DroveRoads", "road", "LDroveRoads$Road;", true)
  | 1 => ("DroveRoads", "letters", "LDroveRoads$Letters;", true)
  | 2 => ("DroveRoads", "bills", "LDroveRoads$Bills;", true)
  | 3 => ("DroveRoads", "herds", "[LDroveRoads$Herd;", true)
  | 4 => ("DroveRoads", "tape", "[B", true)
  | 5 => ("DroveRoads", "reckoner", "LDroveRoads$Reckoner;", true)
  | 6 => ("DroveRoads", "spareOrders", "LDroveRoads$Orders;", false)
  | 7 => ("DroveRoads", "herdCount", "I", false)
  | 8 => ("DroveRoads", "tapeBytes", "I", false)
  | 9 => ("DroveRoads", "latestFault", "I", false)
  | 10 => ("DroveRoads", "latestFaultPlace", "I", false)
  | _ => ("DroveRoads", "today", "I", false)
def tyX10 : Nat → FieldType := fun k => match k with
  | 0 => .object "DroveRoads$Road"
  | 1 => .object "DroveRoads$Letters"
  | 2 => .object "DroveRoads$Bills"
  | 3 => .array (.object "DroveRoads$Herd")
  | 4 => .array .byte
  | 5 => .object "DroveRoads$Reckoner"
  | 6 => .object "DroveRoads$Orders"
  | 7 => .int
  | 8 => .int
  | 9 => .int
  | 10 => .int
  | _ => .int
theorem nmX10 : ∀ a, a < 12 → ∀ b, b < 12 → a ≠ b → (TX10 a).2.1 ≠ (TX10 b).2.1 := by decide +kernel
theorem tyX10_ok : ∀ k, k < 12 → parseFieldDescriptor (TX10 k).2.2.1 = some (tyX10 k) := by decide +kernel
abbrev cX10_init : ByteArray := prog_1_method_1_code
def yX10_init : MethodName := ⟨RX10, "<init>", "()V"⟩
abbrev cX10_stance : ByteArray := prog_1_method_2_code
def yX10_stance : MethodName := ⟨RX10, "stance", "(I)I"⟩
abbrev cX10_first : ByteArray := prog_1_method_3_code
def yX10_first : MethodName := ⟨RX10, "first", "(I)Z"⟩
abbrev cX10_grass : ByteArray := prog_1_method_4_code
def yX10_grass : MethodName := ⟨RX10, "grass", "(IIII)Z"⟩
abbrev cX10_herd : ByteArray := prog_1_method_5_code
def yX10_herd : MethodName := ⟨RX10, "herd", "(IIII)I"⟩
abbrev cX10_letter : ByteArray := prog_1_method_6_code
def yX10_letter : MethodName := ⟨RX10, "letter", "(I)I"⟩
abbrev cX10_known : ByteArray := prog_1_method_7_code
def yX10_known : MethodName := ⟨RX10, "known", "(I)I"⟩
abbrev cX10_feed : ByteArray := prog_1_method_8_code
def yX10_feed : MethodName := ⟨RX10, "feed", "(IIIII)I"⟩
abbrev cX10_end : ByteArray := prog_1_method_9_code
def yX10_end : MethodName := ⟨RX10, "end", "(I)I"⟩
abbrev cX10_orders : ByteArray := prog_1_method_10_code
def yX10_orders : MethodName := ⟨RX10, "orders", "(I)I"⟩
abbrev cX10_fault : ByteArray := prog_1_method_11_code
def yX10_fault : MethodName := ⟨RX10, "fault", "(I)I"⟩
abbrev cX10_days : ByteArray := prog_1_method_12_code
def yX10_days : MethodName := ⟨RX10, "days", "(I)I"⟩
abbrev cX10_of : ByteArray := prog_1_method_13_code
def yX10_of : MethodName := ⟨RX10, "of", "(II)I"⟩
abbrev cX10_at : ByteArray := prog_1_method_14_code
def yX10_at : MethodName := ⟨RX10, "at", "(II)I"⟩
abbrev cX10_gain : ByteArray := prog_1_method_15_code
def yX10_gain : MethodName := ⟨RX10, "gain", "(II)I"⟩
abbrev cX10_length : ByteArray := prog_1_method_16_code
def yX10_length : MethodName := ⟨RX10, "length", "(II)I"⟩
abbrev cX10_act : ByteArray := prog_1_method_17_code
def yX10_act : MethodName := ⟨RX10, "act", "(III)I"⟩
abbrev cX10_bill : ByteArray := prog_1_method_18_code
def yX10_bill : MethodName := ⟨RX10, "bill", "(III)I"⟩
abbrev cX10_pass : ByteArray := prog_1_method_19_code
def yX10_pass : MethodName := ⟨RX10, "pass", "(IIII)I"⟩
abbrev cX10_untell : ByteArray := prog_1_method_20_code
def yX10_untell : MethodName := ⟨RX10, "untell", "(I)Z"⟩
abbrev cX10_holder : ByteArray := prog_1_method_21_code
def yX10_holder : MethodName := ⟨RX10, "holder", "(III)I"⟩
abbrev cX10_pay : ByteArray := prog_1_method_22_code
def yX10_pay : MethodName := ⟨RX10, "pay", "(I)I"⟩
abbrev cX10_paid : ByteArray := prog_1_method_23_code
def yX10_paid : MethodName := ⟨RX10, "paid", "(II)I"⟩
abbrev cX10_about : ByteArray := prog_1_method_24_code
def yX10_about : MethodName := ⟨RX10, "about", "(I)I"⟩
abbrev cX10_within : ByteArray := prog_1_method_25_code
def yX10_within : MethodName := ⟨RX10, "within", "(III)Z"⟩
abbrev cX10_findHerd : ByteArray := prog_1_method_26_code
def yX10_findHerd : MethodName := ⟨RX10, "findHerd", "(I)LDroveRoads$Herd;"⟩
abbrev cX10_priceKnownAt : ByteArray := prog_1_method_27_code
def yX10_priceKnownAt : MethodName := ⟨RX10, "priceKnownAt", "(I)I"⟩
abbrev cX10_feedFour : ByteArray := prog_1_method_28_code
def yX10_feedFour : MethodName := ⟨RX10, "feedFour", "(I)V"⟩
abbrev cX10_findWay : ByteArray := prog_1_method_29_code
def yX10_findWay : MethodName := ⟨RX10, "findWay", "(II)LDroveRoads$LoneWay;"⟩
abbrev cX10_passDay : ByteArray := prog_1_method_30_code
def yX10_passDay : MethodName := ⟨RX10, "passDay", "()V"⟩
abbrev cX10_drive : ByteArray := prog_1_method_31_code
def yX10_drive : MethodName := ⟨RX10, "drive", "(LDroveRoads$Herd;)V"⟩
abbrev cX10_walkOn : ByteArray := prog_1_method_32_code
def yX10_walkOn : MethodName := ⟨RX10, "walkOn", "(LDroveRoads$Herd;)V"⟩
def RX11 : String := "DroveRoadsModel"
def TX11 : u_T := fun k => match k with
  | 0 => ("DroveRoadsModel", "today", "I", false)
  | 1 => ("DroveRoadsModel", "stances", "I", false)
  | 2 => ("DroveRoadsModel", "miles", "[I", true)
  | 3 => ("DroveRoadsModel", "grass", "[I", true)
  | 4 => ("DroveRoadsModel", "grows", "[I", true)
  | 5 => ("DroveRoadsModel", "most", "[I", true)
  | 6 => ("DroveRoadsModel", "footsore", "[I", true)
  | 7 => ("DroveRoadsModel", "letters", "I", false)
  | 8 => ("DroveRoadsModel", "priceOf", "[I", true)
  | 9 => ("DroveRoadsModel", "sent", "[I", true)
  | 10 => ("DroveRoadsModel", "herds", "I", false)
  | 11 => ("DroveRoadsModel", "heads", "[I", true)
  | 12 => ("DroveRoadsModel", "weight", "[I", true)
  | 13 => ("DroveRoadsModel", "need", "[I", true)
  | 14 => ("DroveRoadsModel", "start", "[I", true)
  | 15 => ("DroveRoadsModel", "sore", "[I", true)
  | 16 => ("DroveRoadsModel", "stance", "[I", true)
  | 17 => ("DroveRoadsModel", "coins", "[I", true)
  | 18 => ("DroveRoadsModel", "left", "[I", true)
  | 19 => ("DroveRoadsModel", "sold", "[I", true)
  | 20 => ("DroveRoadsModel", "dead", "[I", true)
  | 21 => ("DroveRoadsModel", "eaten", "[I", true)
  | 22 => ("DroveRoadsModel", "steps", "[I", true)
  | 23 => ("DroveRoadsModel", "numbers", "[I", true)
  | 24 => ("DroveRoadsModel", "lineAt", "[I", true)
  | 25 => ("DroveRoadsModel", "does", "[I", true)
  | 26 => ("DroveRoadsModel", "sells", "[I", true)
  | 27 => ("DroveRoadsModel", "lines", "[I", true)
  | 28 => ("DroveRoadsModel", "newSteps", "[I", true)
  | 29 => ("DroveRoadsModel", "newNumbers", "[I", true)
  | 30 => ("DroveRoadsModel", "newAt", "[I", true)
  | 31 => ("DroveRoadsModel", "newDoes", "[I", true)
  | 32 => ("DroveRoadsModel", "newSells", "[I", true)
  | 33 => ("DroveRoadsModel", "newLines", "I", false)
  | 34 => ("DroveRoadsModel", "newMany", "I", false)
  | 35 => ("DroveRoadsModel", "values", "I", false)
  | 36 => ("DroveRoadsModel", "tape", "[I", true)
  | 37 => ("DroveRoadsModel", "taped", "I", false)
  | 38 => ("DroveRoadsModel", "fault", "I", false)
  | 39 => ("DroveRoadsModel", "faultPlace", "I", false)
  | 40 => ("DroveRoadsModel", "at", "I", false)
  | 41 => ("DroveRoadsModel", "size", "I", false)
  | 42 => ("DroveRoadsModel", "sort", "I", false)
  | 43 => ("DroveRoadsModel", "place", "I", false)
  | 44 => ("DroveRoadsModel", "number", "I", false)
  | 45 => ("DroveRoadsModel", "word", "J", false)
  | 46 => ("DroveRoadsModel", "waits", "[I", true)
  | 47 => ("DroveRoadsModel", "waiting", "I", false)
  | 48 => ("DroveRoadsModel", "deep", "I", false)
  | 49 => ("DroveRoadsModel", "pile", "[I", true)
  | 50 => ("DroveRoadsModel", "names", "[I", true)
  | 51 => ("DroveRoadsModel", "gains", "[I", true)
  | 52 => ("DroveRoadsModel", "lasts", "[I", true)
  | 53 => ("DroveRoadsModel", "walks", "[Z", true)
  | 54 => ("DroveRoadsModel", "bills", "I", false)
  | 55 => ("DroveRoadsModel", "passings", "I", false)
  | 56 => ("DroveRoadsModel", "amount", "[I", true)
  | 57 => ("DroveRoadsModel", "madeTo", "[I", true)
  | 58 => ("DroveRoadsModel", "due", "[I", true)
  | 59 => ("DroveRoadsModel", "paidOn", "[I", true)
  | 60 => ("DroveRoadsModel", "paidTo", "[I", true)
  | 61 => ("DroveRoadsModel", "passOf", "[I", true)
  | 62 => ("DroveRoadsModel", "passFrom", "[I", true)
  | 63 => ("DroveRoadsModel", "passTo", "[I", true)
  | 64 => ("DroveRoadsModel", "passDay", "[I", true)
  | 65 => ("DroveRoadsModel", "toldOn", "[I", true)
  | _ => ("DroveRoadsModel", "untoldOn", "[I", true)
def tyX11 : Nat → FieldType := fun k => match k with
  | 0 => .int
  | 1 => .int
  | 2 => .array .int
  | 3 => .array .int
  | 4 => .array .int
  | 5 => .array .int
  | 6 => .array .int
  | 7 => .int
  | 8 => .array .int
  | 9 => .array .int
  | 10 => .int
  | 11 => .array .int
  | 12 => .array .int
  | 13 => .array .int
  | 14 => .array .int
  | 15 => .array .int
  | 16 => .array .int
  | 17 => .array .int
  | 18 => .array .int
  | 19 => .array .int
  | 20 => .array .int
  | 21 => .array .int
  | 22 => .array .int
  | 23 => .array .int
  | 24 => .array .int
  | 25 => .array .int
  | 26 => .array .int
  | 27 => .array .int
  | 28 => .array .int
  | 29 => .array .int
  | 30 => .array .int
  | 31 => .array .int
  | 32 => .array .int
  | 33 => .int
  | 34 => .int
  | 35 => .int
  | 36 => .array .int
  | 37 => .int
  | 38 => .int
  | 39 => .int
  | 40 => .int
  | 41 => .int
  | 42 => .int
  | 43 => .int
  | 44 => .int
  | 45 => .long
  | 46 => .array .int
  | 47 => .int
  | 48 => .int
  | 49 => .array .int
  | 50 => .array .int
  | 51 => .array .int
  | 52 => .array .int
  | 53 => .array .boolean
  | 54 => .int
  | 55 => .int
  | 56 => .array .int
  | 57 => .array .int
  | 58 => .array .int
  | 59 => .array .int
  | 60 => .array .int
  | 61 => .array .int
  | 62 => .array .int
  | 63 => .array .int
  | 64 => .array .int
  | 65 => .array .int
  | _ => .array .int
theorem nmX11 : ∀ a, a < 67 → ∀ b, b < 67 → a ≠ b → (TX11 a).2.1 ≠ (TX11 b).2.1 := by decide +kernel
theorem tyX11_ok : ∀ k, k < 67 → parseFieldDescriptor (TX11 k).2.2.1 = some (tyX11 k) := by decide +kernel
abbrev cX11_init : ByteArray := prog_13_method_1_code
def yX11_init : MethodName := ⟨RX11, "<init>", "()V"⟩
abbrev cX11_isStance : ByteArray := prog_13_method_2_code
def yX11_isStance : MethodName := ⟨RX11, "isStance", "(I)Z"⟩
abbrev cX11_fair : ByteArray := prog_13_method_3_code
def yX11_fair : MethodName := ⟨RX11, "fair", "()I"⟩
abbrev cX11_areMiles : ByteArray := prog_13_method_4_code
def yX11_areMiles : MethodName := ⟨RX11, "areMiles", "(I)Z"⟩
abbrev cX11_stance : ByteArray := prog_13_method_5_code
def yX11_stance : MethodName := ⟨RX11, "stance", "(I)I"⟩
abbrev cX11_first : ByteArray := prog_13_method_6_code
def yX11_first : MethodName := ⟨RX11, "first", "(I)Z"⟩
abbrev cX11_grass : ByteArray := prog_13_method_7_code
def yX11_grass : MethodName := ⟨RX11, "grass", "(IIII)Z"⟩
abbrev cX11_toFair : ByteArray := prog_13_method_8_code
def yX11_toFair : MethodName := ⟨RX11, "toFair", "(I)I"⟩
abbrev cX11_letter : ByteArray := prog_13_method_9_code
def yX11_letter : MethodName := ⟨RX11, "letter", "(I)I"⟩
abbrev cX11_knownAt : ByteArray := prog_13_method_10_code
def yX11_knownAt : MethodName := ⟨RX11, "knownAt", "(II)I"⟩
abbrev cX11_known : ByteArray := prog_13_method_11_code
def yX11_known : MethodName := ⟨RX11, "known", "(I)I"⟩
abbrev cX11_isHerd : ByteArray := prog_13_method_12_code
def yX11_isHerd : MethodName := ⟨RX11, "isHerd", "(I)Z"⟩
abbrev cX11_herd : ByteArray := prog_13_method_13_code
def yX11_herd : MethodName := ⟨RX11, "herd", "(IIII)I"⟩
abbrev cX11_of : ByteArray := prog_13_method_14_code
def yX11_of : MethodName := ⟨RX11, "of", "(II)I"⟩
abbrev cX11_at : ByteArray := prog_13_method_15_code
def yX11_at : MethodName := ⟨RX11, "at", "(II)I"⟩
abbrev cX11_feed : ByteArray := prog_13_method_16_code
def yX11_feed : MethodName := ⟨RX11, "feed", "(IIIII)I"⟩
abbrev cX11_four : ByteArray := prog_13_method_17_code
def yX11_four : MethodName := ⟨RX11, "four", "(I)V"⟩
abbrev cX11_end : ByteArray := prog_13_method_18_code
def yX11_end : MethodName := ⟨RX11, "end", "(I)I"⟩
abbrev cX11_here : ByteArray := prog_13_method_19_code
def yX11_here : MethodName := ⟨RX11, "here", "(I)I"⟩
abbrev cX11_isLetter : ByteArray := prog_13_method_20_code
def yX11_isLetter : MethodName := ⟨RX11, "isLetter", "(I)Z"⟩
abbrev cX11_isDigit : ByteArray := prog_13_method_21_code
def yX11_isDigit : MethodName := ⟨RX11, "isDigit", "(I)Z"⟩
abbrev cX11_isSign : ByteArray := prog_13_method_22_code
def yX11_isSign : MethodName := ⟨RX11, "isSign", "(I)Z"⟩
abbrev cX11_next : ByteArray := prog_13_method_23_code
def yX11_next : MethodName := ⟨RX11, "next", "()V"⟩
abbrev cX11_wrong : ByteArray := prog_13_method_24_code
def yX11_wrong : MethodName := ⟨RX11, "wrong", "(I)V"⟩
abbrev cX11_isWord : ByteArray := prog_13_method_25_code
def yX11_isWord : MethodName := ⟨RX11, "isWord", "(J)Z"⟩
abbrev cX11_isKey : ByteArray := prog_13_method_26_code
def yX11_isKey : MethodName := ⟨RX11, "isKey", "()Z"⟩
abbrev cX11_named : ByteArray := prog_13_method_27_code
def yX11_named : MethodName := ⟨RX11, "named", "()I"⟩
abbrev cX11_step : ByteArray := prog_13_method_28_code
def yX11_step : MethodName := ⟨RX11, "step", "(II)V"⟩
abbrev cX11_hold : ByteArray := prog_13_method_29_code
def yX11_hold : MethodName := ⟨RX11, "hold", "(I)V"⟩
abbrev cX11_pop : ByteArray := prog_13_method_30_code
def yX11_pop : MethodName := ⟨RX11, "pop", "()V"⟩
abbrev cX11_settle : ByteArray := prog_13_method_31_code
def yX11_settle : MethodName := ⟨RX11, "settle", "(I)V"⟩
abbrev cX11_isOpen : ByteArray := prog_13_method_32_code
def yX11_isOpen : MethodName := ⟨RX11, "isOpen", "()Z"⟩
abbrev cX11_readE : ByteArray := prog_13_method_33_code
def yX11_readE : MethodName := ⟨RX11, "readE", "()V"⟩
abbrev cX11_operand : ByteArray := prog_13_method_34_code
def yX11_operand : MethodName := ⟨RX11, "operand", "(I)I"⟩
abbrev cX11_sign : ByteArray := prog_13_method_35_code
def yX11_sign : MethodName := ⟨RX11, "sign", "()I"⟩
abbrev cX11_settleOnes : ByteArray := prog_13_method_36_code
def yX11_settleOnes : MethodName := ⟨RX11, "settleOnes", "(Z)V"⟩
abbrev cX11_readAct : ByteArray := prog_13_method_37_code
def yX11_readAct : MethodName := ⟨RX11, "readAct", "()V"⟩
abbrev cX11_orders : ByteArray := prog_13_method_38_code
def yX11_orders : MethodName := ⟨RX11, "orders", "(I)I"⟩
abbrev cX11_fault : ByteArray := prog_13_method_39_code
def yX11_fault : MethodName := ⟨RX11, "fault", "(I)I"⟩
abbrev cX11_holds : ByteArray := prog_13_method_40_code
def yX11_holds : MethodName := ⟨RX11, "holds", "(II)Z"⟩
abbrev cX11_earn : ByteArray := prog_13_method_41_code
def yX11_earn : MethodName := ⟨RX11, "earn", "(IIII)V"⟩
abbrev cX11_rest : ByteArray := prog_13_method_42_code
def yX11_rest : MethodName := ⟨RX11, "rest", "(I)V"⟩
abbrev cX11_walk : ByteArray := prog_13_method_43_code
def yX11_walk : MethodName := ⟨RX11, "walk", "(I)V"⟩
abbrev cX11_eat : ByteArray := prog_13_method_44_code
def yX11_eat : MethodName := ⟨RX11, "eat", "(IZ)V"⟩
abbrev cX11_go : ByteArray := prog_13_method_45_code
def yX11_go : MethodName := ⟨RX11, "go", "(I)V"⟩
abbrev cX11_days : ByteArray := prog_13_method_46_code
def yX11_days : MethodName := ⟨RX11, "days", "(I)I"⟩
abbrev cX11_cell : ByteArray := prog_13_method_47_code
def yX11_cell : MethodName := ⟨RX11, "cell", "(III)I"⟩
abbrev cX11_fill : ByteArray := prog_13_method_48_code
def yX11_fill : MethodName := ⟨RX11, "fill", "(II)Z"⟩
abbrev cX11_gain : ByteArray := prog_13_method_49_code
def yX11_gain : MethodName := ⟨RX11, "gain", "(II)I"⟩
abbrev cX11_length : ByteArray := prog_13_method_50_code
def yX11_length : MethodName := ⟨RX11, "length", "(II)I"⟩
abbrev cX11_act : ByteArray := prog_13_method_51_code
def yX11_act : MethodName := ⟨RX11, "act", "(III)I"⟩
abbrev cX11_isHand : ByteArray := prog_13_method_52_code
def yX11_isHand : MethodName := ⟨RX11, "isHand", "(I)Z"⟩
abbrev cX11_isBill : ByteArray := prog_13_method_53_code
def yX11_isBill : MethodName := ⟨RX11, "isBill", "(I)Z"⟩
abbrev cX11_bill : ByteArray := prog_13_method_54_code
def yX11_bill : MethodName := ⟨RX11, "bill", "(III)I"⟩
abbrev cX11_pass : ByteArray := prog_13_method_55_code
def yX11_pass : MethodName := ⟨RX11, "pass", "(IIII)I"⟩
abbrev cX11_untell : ByteArray := prog_13_method_56_code
def yX11_untell : MethodName := ⟨RX11, "untell", "(I)Z"⟩
abbrev cX11_holder : ByteArray := prog_13_method_57_code
def yX11_holder : MethodName := ⟨RX11, "holder", "(III)I"⟩
abbrev cX11_pay : ByteArray := prog_13_method_58_code
def yX11_pay : MethodName := ⟨RX11, "pay", "(I)I"⟩
abbrev cX11_paid : ByteArray := prog_13_method_59_code
def yX11_paid : MethodName := ⟨RX11, "paid", "(II)I"⟩
abbrev cX11_about : ByteArray := prog_13_method_60_code
def yX11_about : MethodName := ⟨RX11, "about", "(I)I"⟩
def RJ11 : String := "java/lang/Character"
def TJ11 : u_T := fun k => match k with
  | _ => ("", "", "", false)
def tyJ11 : Nat → FieldType := fun k => match k with
  | _ => .int
theorem nmJ11 : ∀ a, a < 0 → ∀ b, b < 0 → a ≠ b → (TJ11 a).2.1 ≠ (TJ11 b).2.1 := by decide +kernel
theorem tyJ11_ok : ∀ k, k < 0 → parseFieldDescriptor (TJ11 k).2.2.1 = some (tyJ11 k) := by decide +kernel
abbrev cJ11_isValidCodePoint_9a6ad : ByteArray := prog_14_method_11_code
def yJ11_isValidCodePoint_9a6ad : MethodName := ⟨RJ11, "isValidCodePoint", "(I)Z"⟩
abbrev cJ11_highSurrogate_5068e : ByteArray := prog_14_method_28_code
def yJ11_highSurrogate_5068e : MethodName := ⟨RJ11, "highSurrogate", "(I)C"⟩
abbrev cJ11_lowSurrogate_5068e : ByteArray := prog_14_method_29_code
def yJ11_lowSurrogate_5068e : MethodName := ⟨RJ11, "lowSurrogate", "(I)C"⟩
def RJ9 : String := "java/lang/Math"
def TJ9 : u_T := fun k => match k with
  | _ => ("", "", "", false)
def tyJ9 : Nat → FieldType := fun k => match k with
  | _ => .int
theorem nmJ9 : ∀ a, a < 0 → ∀ b, b < 0 → a ≠ b → (TJ9 a).2.1 ≠ (TJ9 b).2.1 := by decide +kernel
theorem tyJ9_ok : ∀ k, k < 0 → parseFieldDescriptor (TJ9 k).2.2.1 = some (tyJ9 k) := by decide +kernel
abbrev cJ9_max_7cf53 : ByteArray := prog_15_method_65_code
def yJ9_max_7cf53 : MethodName := ⟨RJ9, "max", "(II)I"⟩
abbrev cJ9_min_7cf53 : ByteArray := prog_15_method_69_code
def yJ9_min_7cf53 : MethodName := ⟨RJ9, "min", "(II)I"⟩
def RJ0 : String := "java/lang/String"
def TJ0 : u_T := fun k => match k with
  | _ => ("", "", "", false)
def tyJ0 : Nat → FieldType := fun k => match k with
  | _ => .int
theorem nmJ0 : ∀ a, a < 0 → ∀ b, b < 0 → a ≠ b → (TJ0 a).2.1 ≠ (TJ0 b).2.1 := by decide +kernel
theorem tyJ0_ok : ∀ k, k < 0 → parseFieldDescriptor (TJ0 k).2.2.1 = some (tyJ0 k) := by decide +kernel
abbrev cJ0_length_8abf5 : ByteArray := prog_16_method_54_code
def yJ0_length_8abf5 : MethodName := ⟨RJ0, "length", "()I"⟩
abbrev cJ0_charAt_5068e : ByteArray := prog_16_method_56_code
def yJ0_charAt_5068e : MethodName := ⟨RJ0, "charAt", "(I)C"⟩
abbrev cJ0_indexOf_0f7a4 : ByteArray := prog_16_method_79_code
def yJ0_indexOf_0f7a4 : MethodName := ⟨RJ0, "indexOf", "(I)I"⟩
abbrev cJ0_indexOf_7cf53 : ByteArray := prog_16_method_80_code
def yJ0_indexOf_7cf53 : MethodName := ⟨RJ0, "indexOf", "(II)I"⟩
abbrev cJ0_coder_7d493 : ByteArray := prog_16_method_152_code
def yJ0_coder_7d493 : MethodName := ⟨RJ0, "coder", "()B"⟩
abbrev cJ0_isLatin1_aae02 : ByteArray := prog_16_method_154_code
def yJ0_isLatin1_aae02 : MethodName := ⟨RJ0, "isLatin1", "()Z"⟩
abbrev cJ0_checkIndex_df160 : ByteArray := prog_16_method_155_code
def yJ0_checkIndex_df160 : MethodName := ⟨RJ0, "checkIndex", "(II)V"⟩
abbrev cJ0_checkBoundsBeginEnd_23922 : ByteArray := prog_16_method_158_code
def yJ0_checkBoundsBeginEnd_23922 : MethodName := ⟨RJ0, "checkBoundsBeginEnd", "(III)V"⟩
def RJ1 : String := "java/lang/StringLatin1"
def TJ1 : u_T := fun k => match k with
  | _ => ("", "", "", false)
def tyJ1 : Nat → FieldType := fun k => match k with
  | _ => .int
theorem nmJ1 : ∀ a, a < 0 → ∀ b, b < 0 → a ≠ b → (TJ1 a).2.1 ≠ (TJ1 b).2.1 := by decide +kernel
theorem tyJ1_ok : ∀ k, k < 0 → parseFieldDescriptor (TJ1 k).2.2.1 = some (tyJ1 k) := by decide +kernel
abbrev cJ1_charAt_3b067 : ByteArray := prog_17_method_2_code
def yJ1_charAt_3b067 : MethodName := ⟨RJ1, "charAt", "([BI)C"⟩
abbrev cJ1_canEncode_9a6ad : ByteArray := prog_17_method_4_code
def yJ1_canEncode_9a6ad : MethodName := ⟨RJ1, "canEncode", "(I)Z"⟩
abbrev cJ1_indexOf_4cfef : ByteArray := prog_17_method_22_code
def yJ1_indexOf_4cfef : MethodName := ⟨RJ1, "indexOf", "([BIII)I"⟩
abbrev cJ1_indexOfChar_4cfef : ByteArray := prog_17_method_23_code
def yJ1_indexOfChar_4cfef : MethodName := ⟨RJ1, "indexOfChar", "([BIII)I"⟩
def RJ2 : String := "java/lang/StringUTF16"
def TJ2 : u_T := fun k => match k with
  | _ => ("", "", "", false)
def tyJ2 : Nat → FieldType := fun k => match k with
  | _ => .int
theorem nmJ2 : ∀ a, a < 0 → ∀ b, b < 0 → a ≠ b → (TJ2 a).2.1 ≠ (TJ2 b).2.1 := by decide +kernel
theorem tyJ2_ok : ∀ k, k < 0 → parseFieldDescriptor (TJ2 k).2.2.1 = some (tyJ2 k) := by decide +kernel
abbrev cJ2_getChar_3b067 : ByteArray := prog_18_method_5_code
def yJ2_getChar_3b067 : MethodName := ⟨RJ2, "getChar", "([BI)C"⟩
abbrev cJ2_length_9d52b : ByteArray := prog_18_method_6_code
def yJ2_length_9d52b : MethodName := ⟨RJ2, "length", "([B)I"⟩
abbrev cJ2_indexOf_4cfef : ByteArray := prog_18_method_40_code
def yJ2_indexOf_4cfef : MethodName := ⟨RJ2, "indexOf", "([BIII)I"⟩
abbrev cJ2_indexOfChar_4cfef : ByteArray := prog_18_method_47_code
def yJ2_indexOfChar_4cfef : MethodName := ⟨RJ2, "indexOfChar", "([BIII)I"⟩
abbrev cJ2_indexOfCharUnsafe_4cfef : ByteArray := prog_18_method_48_code
def yJ2_indexOfCharUnsafe_4cfef : MethodName := ⟨RJ2, "indexOfCharUnsafe", "([BIII)I"⟩
abbrev cJ2_indexOfSupplementary_4cfef : ByteArray := prog_18_method_49_code
def yJ2_indexOfSupplementary_4cfef : MethodName := ⟨RJ2, "indexOfSupplementary", "([BIII)I"⟩
abbrev cJ2_charAt_3b067 : ByteArray := prog_18_method_83_code
def yJ2_charAt_3b067 : MethodName := ⟨RJ2, "charAt", "([BI)C"⟩
abbrev cJ2_checkIndex_2214a : ByteArray := prog_18_method_91_code
def yJ2_checkIndex_2214a : MethodName := ⟨RJ2, "checkIndex", "(I[B)V"⟩
abbrev cJ2_checkBoundsBeginEnd_d044e : ByteArray := prog_18_method_93_code
def yJ2_checkBoundsBeginEnd_d044e : MethodName := ⟨RJ2, "checkBoundsBeginEnd", "(II[B)V"⟩
def RJ3 : String := "jdk/internal/util/Preconditions"
def TJ3 : u_T := fun k => match k with
  | _ => ("", "", "", false)
def tyJ3 : Nat → FieldType := fun k => match k with
  | _ => .int
theorem nmJ3 : ∀ a, a < 0 → ∀ b, b < 0 → a ≠ b → (TJ3 a).2.1 ≠ (TJ3 b).2.1 := by decide +kernel
theorem tyJ3_ok : ∀ k, k < 0 → parseFieldDescriptor (TJ3 k).2.2.1 = some (tyJ3 k) := by decide +kernel
abbrev cJ3_checkIndex_8e157 : ByteArray := prog_19_method_11_code
def yJ3_checkIndex_8e157 : MethodName := ⟨RJ3, "checkIndex", "(IILjava/util/function/BiFunction;)I"⟩
abbrev cJ3_checkFromToIndex_8c36e : ByteArray := prog_19_method_12_code
def yJ3_checkFromToIndex_8c36e : MethodName := ⟨RJ3, "checkFromToIndex", "(IIILjava/util/function/BiFunction;)I"⟩
def RL : String := "DroveRoadsLaw"
abbrev cL_law : ByteArray := code
def yL_law : MethodName := ⟨RL, "law", "([I)Z"⟩
