section
-- ===== PART A: goes FIRST, ahead of the names: the tables' words, and 'selects' of the private methods out of them =====
/-- a private method of a class that the tables say can be made, by its rows of tables_1 -/
def lw_okq (q : MethodName × Nat) : Prop := (q.1.cls ≠ "java/lang/invoke/MethodHandle" ∧ q.1.cls ≠ "java/lang/invoke/VarHandle") ∧ Cond.instantiable q.1.cls q.2 ∈ tables_1 ∧ Cond.privateMethod q.1 ∈ tables_1 ∧ Cond.instanceMethod q.1 ∈ tables_1
theorem lw_p0 : lw_okq (⟨"DroveRoads$Road", "measure", "()V"⟩, 7) := ⟨⟨by decide +kernel, by decide +kernel⟩, List.mem_of_getElem? (i := 28) (by decide +kernel), List.mem_of_getElem? (i := 235) (by decide +kernel), List.mem_of_getElem? (i := 236) (by decide +kernel)⟩
theorem lw_p1 : lw_okq (⟨"DroveRoads", "priceKnownAt", "(I)I"⟩, 12) := ⟨⟨by decide +kernel, by decide +kernel⟩, List.mem_of_getElem? (i := 20) (by decide +kernel), List.mem_of_getElem? (i := 336) (by decide +kernel), List.mem_of_getElem? (i := 337) (by decide +kernel)⟩
theorem lw_p2 : lw_okq (⟨"DroveRoads", "feedFour", "(I)V"⟩, 12) := ⟨⟨by decide +kernel, by decide +kernel⟩, List.mem_of_getElem? (i := 20) (by decide +kernel), List.mem_of_getElem? (i := 352) (by decide +kernel), List.mem_of_getElem? (i := 353) (by decide +kernel)⟩
theorem lw_p3 : lw_okq (⟨"DroveRoads", "findHerd", "(I)LDroveRoads$Herd;"⟩, 12) := ⟨⟨by decide +kernel, by decide +kernel⟩, List.mem_of_getElem? (i := 20) (by decide +kernel), List.mem_of_getElem? (i := 364) (by decide +kernel), List.mem_of_getElem? (i := 365) (by decide +kernel)⟩
theorem lw_p4 : lw_okq (⟨"DroveRoads$Lexer", "byteAt", "(I)I"⟩, 6) := ⟨⟨by decide +kernel, by decide +kernel⟩, List.mem_of_getElem? (i := 374) (by decide +kernel), List.mem_of_getElem? (i := 435) (by decide +kernel), List.mem_of_getElem? (i := 436) (by decide +kernel)⟩
theorem lw_p5 : lw_okq (⟨"DroveRoads$Lexer", "scanWord", "()V"⟩, 6) := ⟨⟨by decide +kernel, by decide +kernel⟩, List.mem_of_getElem? (i := 374) (by decide +kernel), List.mem_of_getElem? (i := 445) (by decide +kernel), List.mem_of_getElem? (i := 446) (by decide +kernel)⟩
theorem lw_p6 : lw_okq (⟨"DroveRoads$Lexer", "wordToken", "()I"⟩, 6) := ⟨⟨by decide +kernel, by decide +kernel⟩, List.mem_of_getElem? (i := 374) (by decide +kernel), List.mem_of_getElem? (i := 449) (by decide +kernel), List.mem_of_getElem? (i := 450) (by decide +kernel)⟩
theorem lw_p7 : lw_okq (⟨"DroveRoads$Lexer", "letterAt", "(I)I"⟩, 6) := ⟨⟨by decide +kernel, by decide +kernel⟩, List.mem_of_getElem? (i := 374) (by decide +kernel), List.mem_of_getElem? (i := 464) (by decide +kernel), List.mem_of_getElem? (i := 465) (by decide +kernel)⟩
theorem lw_p8 : lw_okq (⟨"DroveRoads$Lexer", "scanNumber", "()V"⟩, 6) := ⟨⟨by decide +kernel, by decide +kernel⟩, List.mem_of_getElem? (i := 374) (by decide +kernel), List.mem_of_getElem? (i := 509) (by decide +kernel), List.mem_of_getElem? (i := 510) (by decide +kernel)⟩
theorem lw_p9 : lw_okq (⟨"DroveRoads$Lexer", "scanSign", "(C)V"⟩, 6) := ⟨⟨by decide +kernel, by decide +kernel⟩, List.mem_of_getElem? (i := 374) (by decide +kernel), List.mem_of_getElem? (i := 513) (by decide +kernel), List.mem_of_getElem? (i := 514) (by decide +kernel)⟩
theorem lw_p10 : lw_okq (⟨"DroveRoads$Parser", "readLine", "()Z"⟩, 5) := ⟨⟨by decide +kernel, by decide +kernel⟩, List.mem_of_getElem? (i := 368) (by decide +kernel), List.mem_of_getElem? (i := 575) (by decide +kernel), List.mem_of_getElem? (i := 576) (by decide +kernel)⟩
theorem lw_p11 : lw_okq (⟨"DroveRoads$Parser", "take", "(I)Z"⟩, 5) := ⟨⟨by decide +kernel, by decide +kernel⟩, List.mem_of_getElem? (i := 368) (by decide +kernel), List.mem_of_getElem? (i := 579) (by decide +kernel), List.mem_of_getElem? (i := 580) (by decide +kernel)⟩
theorem lw_p12 : lw_okq (⟨"DroveRoads$Parser", "refuse", "()Z"⟩, 5) := ⟨⟨by decide +kernel, by decide +kernel⟩, List.mem_of_getElem? (i := 368) (by decide +kernel), List.mem_of_getElem? (i := 583) (by decide +kernel), List.mem_of_getElem? (i := 584) (by decide +kernel)⟩
theorem lw_p13 : lw_okq (⟨"DroveRoads$Parser", "refuseFor", "(I)Z"⟩, 5) := ⟨⟨by decide +kernel, by decide +kernel⟩, List.mem_of_getElem? (i := 368) (by decide +kernel), List.mem_of_getElem? (i := 587) (by decide +kernel), List.mem_of_getElem? (i := 588) (by decide +kernel)⟩
theorem lw_p14 : lw_okq (⟨"DroveRoads$Parser", "readE", "(I)Z"⟩, 5) := ⟨⟨by decide +kernel, by decide +kernel⟩, List.mem_of_getElem? (i := 368) (by decide +kernel), List.mem_of_getElem? (i := 591) (by decide +kernel), List.mem_of_getElem? (i := 592) (by decide +kernel)⟩
theorem lw_p15 : lw_okq (⟨"DroveRoads$Parser", "readBoth", "(I)Z"⟩, 5) := ⟨⟨by decide +kernel, by decide +kernel⟩, List.mem_of_getElem? (i := 368) (by decide +kernel), List.mem_of_getElem? (i := 595) (by decide +kernel), List.mem_of_getElem? (i := 596) (by decide +kernel)⟩
def lw_privs_1 : List (MethodName × Nat) := [(⟨"DroveRoads$Road", "measure", "()V"⟩, 7), (⟨"DroveRoads", "priceKnownAt", "(I)I"⟩, 12), (⟨"DroveRoads", "feedFour", "(I)V"⟩, 12), (⟨"DroveRoads", "findHerd", "(I)LDroveRoads$Herd;"⟩, 12), (⟨"DroveRoads$Lexer", "byteAt", "(I)I"⟩, 6), (⟨"DroveRoads$Lexer", "scanWord", "()V"⟩, 6), (⟨"DroveRoads$Lexer", "wordToken", "()I"⟩, 6), (⟨"DroveRoads$Lexer", "letterAt", "(I)I"⟩, 6), (⟨"DroveRoads$Lexer", "scanNumber", "()V"⟩, 6), (⟨"DroveRoads$Lexer", "scanSign", "(C)V"⟩, 6), (⟨"DroveRoads$Parser", "readLine", "()Z"⟩, 5), (⟨"DroveRoads$Parser", "take", "(I)Z"⟩, 5), (⟨"DroveRoads$Parser", "refuse", "()Z"⟩, 5), (⟨"DroveRoads$Parser", "refuseFor", "(I)Z"⟩, 5), (⟨"DroveRoads$Parser", "readE", "(I)Z"⟩, 5), (⟨"DroveRoads$Parser", "readBoth", "(I)Z"⟩, 5)]
theorem lw_r1 : ∀ q ∈ lw_privs_1, lw_okq q := List.forall_mem_cons.mpr ⟨lw_p0, List.forall_mem_cons.mpr ⟨lw_p1, List.forall_mem_cons.mpr ⟨lw_p2, List.forall_mem_cons.mpr ⟨lw_p3, List.forall_mem_cons.mpr ⟨lw_p4, List.forall_mem_cons.mpr ⟨lw_p5, List.forall_mem_cons.mpr ⟨lw_p6, List.forall_mem_cons.mpr ⟨lw_p7, List.forall_mem_cons.mpr ⟨lw_p8, List.forall_mem_cons.mpr ⟨lw_p9, List.forall_mem_cons.mpr ⟨lw_p10, List.forall_mem_cons.mpr ⟨lw_p11, List.forall_mem_cons.mpr ⟨lw_p12, List.forall_mem_cons.mpr ⟨lw_p13, List.forall_mem_cons.mpr ⟨lw_p14, List.forall_mem_cons.mpr ⟨lw_p15, fun _ h => absurd h List.not_mem_nil⟩⟩⟩⟩⟩⟩⟩⟩⟩⟩⟩⟩⟩⟩⟩⟩
theorem lw_p16 : lw_okq (⟨"DroveRoads$Parser", "readOne", "(I)Z"⟩, 5) := ⟨⟨by decide +kernel, by decide +kernel⟩, List.mem_of_getElem? (i := 368) (by decide +kernel), List.mem_of_getElem? (i := 599) (by decide +kernel), List.mem_of_getElem? (i := 600) (by decide +kernel)⟩
theorem lw_p17 : lw_okq (⟨"DroveRoads$Parser", "write", "(I)Z"⟩, 5) := ⟨⟨by decide +kernel, by decide +kernel⟩, List.mem_of_getElem? (i := 368) (by decide +kernel), List.mem_of_getElem? (i := 603) (by decide +kernel), List.mem_of_getElem? (i := 604) (by decide +kernel)⟩
theorem lw_p18 : lw_okq (⟨"DroveRoads$Parser", "readSum", "(I)Z"⟩, 5) := ⟨⟨by decide +kernel, by decide +kernel⟩, List.mem_of_getElem? (i := 368) (by decide +kernel), List.mem_of_getElem? (i := 611) (by decide +kernel), List.mem_of_getElem? (i := 612) (by decide +kernel)⟩
theorem lw_p19 : lw_okq (⟨"DroveRoads$Parser", "readTerm", "(I)Z"⟩, 5) := ⟨⟨by decide +kernel, by decide +kernel⟩, List.mem_of_getElem? (i := 368) (by decide +kernel), List.mem_of_getElem? (i := 615) (by decide +kernel), List.mem_of_getElem? (i := 616) (by decide +kernel)⟩
theorem lw_p20 : lw_okq (⟨"DroveRoads$Parser", "readOperand", "()Z"⟩, 5) := ⟨⟨by decide +kernel, by decide +kernel⟩, List.mem_of_getElem? (i := 368) (by decide +kernel), List.mem_of_getElem? (i := 619) (by decide +kernel), List.mem_of_getElem? (i := 620) (by decide +kernel)⟩
theorem lw_p21 : lw_okq (⟨"DroveRoads$Parser", "readAct", "()Z"⟩, 5) := ⟨⟨by decide +kernel, by decide +kernel⟩, List.mem_of_getElem? (i := 368) (by decide +kernel), List.mem_of_getElem? (i := 624) (by decide +kernel), List.mem_of_getElem? (i := 625) (by decide +kernel)⟩
theorem lw_p22 : lw_okq (⟨"DroveRoads$Parser", "endLine", "(I)Z"⟩, 5) := ⟨⟨by decide +kernel, by decide +kernel⟩, List.mem_of_getElem? (i := 368) (by decide +kernel), List.mem_of_getElem? (i := 628) (by decide +kernel), List.mem_of_getElem? (i := 629) (by decide +kernel)⟩
theorem lw_p23 : lw_okq (⟨"DroveRoads", "passDay", "()V"⟩, 12) := ⟨⟨by decide +kernel, by decide +kernel⟩, List.mem_of_getElem? (i := 20) (by decide +kernel), List.mem_of_getElem? (i := 645) (by decide +kernel), List.mem_of_getElem? (i := 646) (by decide +kernel)⟩
theorem lw_p24 : lw_okq (⟨"DroveRoads", "drive", "(LDroveRoads$Herd;)V"⟩, 12) := ⟨⟨by decide +kernel, by decide +kernel⟩, List.mem_of_getElem? (i := 20) (by decide +kernel), List.mem_of_getElem? (i := 654) (by decide +kernel), List.mem_of_getElem? (i := 655) (by decide +kernel)⟩
theorem lw_p25 : lw_okq (⟨"DroveRoads$Reckoner", "reckon", "([III)I"⟩, 3) := ⟨⟨by decide +kernel, by decide +kernel⟩, List.mem_of_getElem? (i := 139) (by decide +kernel), List.mem_of_getElem? (i := 678) (by decide +kernel), List.mem_of_getElem? (i := 679) (by decide +kernel)⟩
theorem lw_p26 : lw_okq (⟨"DroveRoads$Reckoner", "push", "(I)V"⟩, 3) := ⟨⟨by decide +kernel, by decide +kernel⟩, List.mem_of_getElem? (i := 139) (by decide +kernel), List.mem_of_getElem? (i := 682) (by decide +kernel), List.mem_of_getElem? (i := 683) (by decide +kernel)⟩
theorem lw_p27 : lw_okq (⟨"DroveRoads$Reckoner", "reckonToken", "(I)V"⟩, 3) := ⟨⟨by decide +kernel, by decide +kernel⟩, List.mem_of_getElem? (i := 139) (by decide +kernel), List.mem_of_getElem? (i := 686) (by decide +kernel), List.mem_of_getElem? (i := 687) (by decide +kernel)⟩
theorem lw_p28 : lw_okq (⟨"DroveRoads$Reckoner", "pop", "()I"⟩, 3) := ⟨⟨by decide +kernel, by decide +kernel⟩, List.mem_of_getElem? (i := 139) (by decide +kernel), List.mem_of_getElem? (i := 690) (by decide +kernel), List.mem_of_getElem? (i := 691) (by decide +kernel)⟩
theorem lw_p29 : lw_okq (⟨"DroveRoads", "walkOn", "(LDroveRoads$Herd;)V"⟩, 12) := ⟨⟨by decide +kernel, by decide +kernel⟩, List.mem_of_getElem? (i := 20) (by decide +kernel), List.mem_of_getElem? (i := 697) (by decide +kernel), List.mem_of_getElem? (i := 698) (by decide +kernel)⟩
theorem lw_p30 : lw_okq (⟨"DroveRoads$Herd", "sellHeads", "(I)I"⟩, 12) := ⟨⟨by decide +kernel, by decide +kernel⟩, List.mem_of_getElem? (i := 268) (by decide +kernel), List.mem_of_getElem? (i := 717) (by decide +kernel), List.mem_of_getElem? (i := 718) (by decide +kernel)⟩
theorem lw_p31 : lw_okq (⟨"DroveRoads$Herd", "earn", "(I)V"⟩, 12) := ⟨⟨by decide +kernel, by decide +kernel⟩, List.mem_of_getElem? (i := 268) (by decide +kernel), List.mem_of_getElem? (i := 721) (by decide +kernel), List.mem_of_getElem? (i := 722) (by decide +kernel)⟩
def lw_privs_2 : List (MethodName × Nat) := [(⟨"DroveRoads$Parser", "readOne", "(I)Z"⟩, 5), (⟨"DroveRoads$Parser", "write", "(I)Z"⟩, 5), (⟨"DroveRoads$Parser", "readSum", "(I)Z"⟩, 5), (⟨"DroveRoads$Parser", "readTerm", "(I)Z"⟩, 5), (⟨"DroveRoads$Parser", "readOperand", "()Z"⟩, 5), (⟨"DroveRoads$Parser", "readAct", "()Z"⟩, 5), (⟨"DroveRoads$Parser", "endLine", "(I)Z"⟩, 5), (⟨"DroveRoads", "passDay", "()V"⟩, 12), (⟨"DroveRoads", "drive", "(LDroveRoads$Herd;)V"⟩, 12), (⟨"DroveRoads$Reckoner", "reckon", "([III)I"⟩, 3), (⟨"DroveRoads$Reckoner", "push", "(I)V"⟩, 3), (⟨"DroveRoads$Reckoner", "reckonToken", "(I)V"⟩, 3), (⟨"DroveRoads$Reckoner", "pop", "()I"⟩, 3), (⟨"DroveRoads", "walkOn", "(LDroveRoads$Herd;)V"⟩, 12), (⟨"DroveRoads$Herd", "sellHeads", "(I)I"⟩, 12), (⟨"DroveRoads$Herd", "earn", "(I)V"⟩, 12)]
theorem lw_r2 : ∀ q ∈ lw_privs_2, lw_okq q := List.forall_mem_cons.mpr ⟨lw_p16, List.forall_mem_cons.mpr ⟨lw_p17, List.forall_mem_cons.mpr ⟨lw_p18, List.forall_mem_cons.mpr ⟨lw_p19, List.forall_mem_cons.mpr ⟨lw_p20, List.forall_mem_cons.mpr ⟨lw_p21, List.forall_mem_cons.mpr ⟨lw_p22, List.forall_mem_cons.mpr ⟨lw_p23, List.forall_mem_cons.mpr ⟨lw_p24, List.forall_mem_cons.mpr ⟨lw_p25, List.forall_mem_cons.mpr ⟨lw_p26, List.forall_mem_cons.mpr ⟨lw_p27, List.forall_mem_cons.mpr ⟨lw_p28, List.forall_mem_cons.mpr ⟨lw_p29, List.forall_mem_cons.mpr ⟨lw_p30, List.forall_mem_cons.mpr ⟨lw_p31, fun _ h => absurd h List.not_mem_nil⟩⟩⟩⟩⟩⟩⟩⟩⟩⟩⟩⟩⟩⟩⟩⟩
theorem lw_p32 : lw_okq (⟨"DroveRoads", "findWay", "(II)LDroveRoads$LoneWay;"⟩, 12) := ⟨⟨by decide +kernel, by decide +kernel⟩, List.mem_of_getElem? (i := 20) (by decide +kernel), List.mem_of_getElem? (i := 761) (by decide +kernel), List.mem_of_getElem? (i := 762) (by decide +kernel)⟩
theorem lw_p33 : lw_okq (⟨"DroveRoads$LoneWay", "mayWalk", "(II)Z"⟩, 4) := ⟨⟨by decide +kernel, by decide +kernel⟩, List.mem_of_getElem? (i := 765) (by decide +kernel), List.mem_of_getElem? (i := 790) (by decide +kernel), List.mem_of_getElem? (i := 791) (by decide +kernel)⟩
theorem lw_p34 : lw_okq (⟨"DroveRoads$Passings", "placeByDay", "(I)V"⟩, 8) := ⟨⟨by decide +kernel, by decide +kernel⟩, List.mem_of_getElem? (i := 81) (by decide +kernel), List.mem_of_getElem? (i := 844) (by decide +kernel), List.mem_of_getElem? (i := 845) (by decide +kernel)⟩
theorem lw_p35 : lw_okq (⟨"DroveRoads$Passings", "isKnown", "(II)Z"⟩, 8) := ⟨⟨by decide +kernel, by decide +kernel⟩, List.mem_of_getElem? (i := 81) (by decide +kernel), List.mem_of_getElem? (i := 869) (by decide +kernel), List.mem_of_getElem? (i := 870) (by decide +kernel)⟩
theorem lw_p36 : lw_okq (⟨"DroveRoadsModel", "isStance", "(I)Z"⟩, 67) := ⟨⟨by decide +kernel, by decide +kernel⟩, List.mem_of_getElem? (i := 894) (by decide +kernel), List.mem_of_getElem? (i := 1119) (by decide +kernel), List.mem_of_getElem? (i := 1120) (by decide +kernel)⟩
theorem lw_p37 : lw_okq (⟨"DroveRoadsModel", "fair", "()I"⟩, 67) := ⟨⟨by decide +kernel, by decide +kernel⟩, List.mem_of_getElem? (i := 894) (by decide +kernel), List.mem_of_getElem? (i := 1123) (by decide +kernel), List.mem_of_getElem? (i := 1124) (by decide +kernel)⟩
theorem lw_p38 : lw_okq (⟨"DroveRoadsModel", "knownAt", "(II)I"⟩, 67) := ⟨⟨by decide +kernel, by decide +kernel⟩, List.mem_of_getElem? (i := 894) (by decide +kernel), List.mem_of_getElem? (i := 1136) (by decide +kernel), List.mem_of_getElem? (i := 1137) (by decide +kernel)⟩
theorem lw_p39 : lw_okq (⟨"DroveRoadsModel", "toFair", "(I)I"⟩, 67) := ⟨⟨by decide +kernel, by decide +kernel⟩, List.mem_of_getElem? (i := 894) (by decide +kernel), List.mem_of_getElem? (i := 1140) (by decide +kernel), List.mem_of_getElem? (i := 1141) (by decide +kernel)⟩
theorem lw_p40 : lw_okq (⟨"DroveRoadsModel", "isHerd", "(I)Z"⟩, 67) := ⟨⟨by decide +kernel, by decide +kernel⟩, List.mem_of_getElem? (i := 894) (by decide +kernel), List.mem_of_getElem? (i := 1152) (by decide +kernel), List.mem_of_getElem? (i := 1153) (by decide +kernel)⟩
theorem lw_p41 : lw_okq (⟨"DroveRoadsModel", "four", "(I)V"⟩, 67) := ⟨⟨by decide +kernel, by decide +kernel⟩, List.mem_of_getElem? (i := 894) (by decide +kernel), List.mem_of_getElem? (i := 1164) (by decide +kernel), List.mem_of_getElem? (i := 1165) (by decide +kernel)⟩
theorem lw_p42 : lw_okq (⟨"DroveRoadsModel", "next", "()V"⟩, 67) := ⟨⟨by decide +kernel, by decide +kernel⟩, List.mem_of_getElem? (i := 894) (by decide +kernel), List.mem_of_getElem? (i := 1176) (by decide +kernel), List.mem_of_getElem? (i := 1177) (by decide +kernel)⟩
theorem lw_p43 : lw_okq (⟨"DroveRoadsModel", "here", "(I)I"⟩, 67) := ⟨⟨by decide +kernel, by decide +kernel⟩, List.mem_of_getElem? (i := 894) (by decide +kernel), List.mem_of_getElem? (i := 1180) (by decide +kernel), List.mem_of_getElem? (i := 1181) (by decide +kernel)⟩
theorem lw_p44 : lw_okq (⟨"DroveRoadsModel", "isWord", "(J)Z"⟩, 67) := ⟨⟨by decide +kernel, by decide +kernel⟩, List.mem_of_getElem? (i := 894) (by decide +kernel), List.mem_of_getElem? (i := 1194) (by decide +kernel), List.mem_of_getElem? (i := 1195) (by decide +kernel)⟩
theorem lw_p45 : lw_okq (⟨"DroveRoadsModel", "wrong", "(I)V"⟩, 67) := ⟨⟨by decide +kernel, by decide +kernel⟩, List.mem_of_getElem? (i := 894) (by decide +kernel), List.mem_of_getElem? (i := 1198) (by decide +kernel), List.mem_of_getElem? (i := 1199) (by decide +kernel)⟩
theorem lw_p46 : lw_okq (⟨"DroveRoadsModel", "readE", "()V"⟩, 67) := ⟨⟨by decide +kernel, by decide +kernel⟩, List.mem_of_getElem? (i := 894) (by decide +kernel), List.mem_of_getElem? (i := 1202) (by decide +kernel), List.mem_of_getElem? (i := 1203) (by decide +kernel)⟩
theorem lw_p47 : lw_okq (⟨"DroveRoadsModel", "isOpen", "()Z"⟩, 67) := ⟨⟨by decide +kernel, by decide +kernel⟩, List.mem_of_getElem? (i := 894) (by decide +kernel), List.mem_of_getElem? (i := 1207) (by decide +kernel), List.mem_of_getElem? (i := 1208) (by decide +kernel)⟩
def lw_privs_3 : List (MethodName × Nat) := [(⟨"DroveRoads", "findWay", "(II)LDroveRoads$LoneWay;"⟩, 12), (⟨"DroveRoads$LoneWay", "mayWalk", "(II)Z"⟩, 4), (⟨"DroveRoads$Passings", "placeByDay", "(I)V"⟩, 8), (⟨"DroveRoads$Passings", "isKnown", "(II)Z"⟩, 8), (⟨"DroveRoadsModel", "isStance", "(I)Z"⟩, 67), (⟨"DroveRoadsModel", "fair", "()I"⟩, 67), (⟨"DroveRoadsModel", "knownAt", "(II)I"⟩, 67), (⟨"DroveRoadsModel", "toFair", "(I)I"⟩, 67), (⟨"DroveRoadsModel", "isHerd", "(I)Z"⟩, 67), (⟨"DroveRoadsModel", "four", "(I)V"⟩, 67), (⟨"DroveRoadsModel", "next", "()V"⟩, 67), (⟨"DroveRoadsModel", "here", "(I)I"⟩, 67), (⟨"DroveRoadsModel", "isWord", "(J)Z"⟩, 67), (⟨"DroveRoadsModel", "wrong", "(I)V"⟩, 67), (⟨"DroveRoadsModel", "readE", "()V"⟩, 67), (⟨"DroveRoadsModel", "isOpen", "()Z"⟩, 67)]
theorem lw_r3 : ∀ q ∈ lw_privs_3, lw_okq q := List.forall_mem_cons.mpr ⟨lw_p32, List.forall_mem_cons.mpr ⟨lw_p33, List.forall_mem_cons.mpr ⟨lw_p34, List.forall_mem_cons.mpr ⟨lw_p35, List.forall_mem_cons.mpr ⟨lw_p36, List.forall_mem_cons.mpr ⟨lw_p37, List.forall_mem_cons.mpr ⟨lw_p38, List.forall_mem_cons.mpr ⟨lw_p39, List.forall_mem_cons.mpr ⟨lw_p40, List.forall_mem_cons.mpr ⟨lw_p41, List.forall_mem_cons.mpr ⟨lw_p42, List.forall_mem_cons.mpr ⟨lw_p43, List.forall_mem_cons.mpr ⟨lw_p44, List.forall_mem_cons.mpr ⟨lw_p45, List.forall_mem_cons.mpr ⟨lw_p46, List.forall_mem_cons.mpr ⟨lw_p47, fun _ h => absurd h List.not_mem_nil⟩⟩⟩⟩⟩⟩⟩⟩⟩⟩⟩⟩⟩⟩⟩⟩
theorem lw_p48 : lw_okq (⟨"DroveRoadsModel", "sign", "()I"⟩, 67) := ⟨⟨by decide +kernel, by decide +kernel⟩, List.mem_of_getElem? (i := 894) (by decide +kernel), List.mem_of_getElem? (i := 1211) (by decide +kernel), List.mem_of_getElem? (i := 1212) (by decide +kernel)⟩
theorem lw_p49 : lw_okq (⟨"DroveRoadsModel", "settle", "(I)V"⟩, 67) := ⟨⟨by decide +kernel, by decide +kernel⟩, List.mem_of_getElem? (i := 894) (by decide +kernel), List.mem_of_getElem? (i := 1215) (by decide +kernel), List.mem_of_getElem? (i := 1216) (by decide +kernel)⟩
theorem lw_p50 : lw_okq (⟨"DroveRoadsModel", "pop", "()V"⟩, 67) := ⟨⟨by decide +kernel, by decide +kernel⟩, List.mem_of_getElem? (i := 894) (by decide +kernel), List.mem_of_getElem? (i := 1219) (by decide +kernel), List.mem_of_getElem? (i := 1220) (by decide +kernel)⟩
theorem lw_p51 : lw_okq (⟨"DroveRoadsModel", "step", "(II)V"⟩, 67) := ⟨⟨by decide +kernel, by decide +kernel⟩, List.mem_of_getElem? (i := 894) (by decide +kernel), List.mem_of_getElem? (i := 1223) (by decide +kernel), List.mem_of_getElem? (i := 1224) (by decide +kernel)⟩
theorem lw_p52 : lw_okq (⟨"DroveRoadsModel", "hold", "(I)V"⟩, 67) := ⟨⟨by decide +kernel, by decide +kernel⟩, List.mem_of_getElem? (i := 894) (by decide +kernel), List.mem_of_getElem? (i := 1227) (by decide +kernel), List.mem_of_getElem? (i := 1228) (by decide +kernel)⟩
theorem lw_p53 : lw_okq (⟨"DroveRoadsModel", "settleOnes", "(Z)V"⟩, 67) := ⟨⟨by decide +kernel, by decide +kernel⟩, List.mem_of_getElem? (i := 894) (by decide +kernel), List.mem_of_getElem? (i := 1233) (by decide +kernel), List.mem_of_getElem? (i := 1234) (by decide +kernel)⟩
theorem lw_p54 : lw_okq (⟨"DroveRoadsModel", "operand", "(I)I"⟩, 67) := ⟨⟨by decide +kernel, by decide +kernel⟩, List.mem_of_getElem? (i := 894) (by decide +kernel), List.mem_of_getElem? (i := 1237) (by decide +kernel), List.mem_of_getElem? (i := 1238) (by decide +kernel)⟩
theorem lw_p55 : lw_okq (⟨"DroveRoadsModel", "isKey", "()Z"⟩, 67) := ⟨⟨by decide +kernel, by decide +kernel⟩, List.mem_of_getElem? (i := 894) (by decide +kernel), List.mem_of_getElem? (i := 1241) (by decide +kernel), List.mem_of_getElem? (i := 1242) (by decide +kernel)⟩
theorem lw_p56 : lw_okq (⟨"DroveRoadsModel", "named", "()I"⟩, 67) := ⟨⟨by decide +kernel, by decide +kernel⟩, List.mem_of_getElem? (i := 894) (by decide +kernel), List.mem_of_getElem? (i := 1249) (by decide +kernel), List.mem_of_getElem? (i := 1250) (by decide +kernel)⟩
theorem lw_p57 : lw_okq (⟨"DroveRoadsModel", "readAct", "()V"⟩, 67) := ⟨⟨by decide +kernel, by decide +kernel⟩, List.mem_of_getElem? (i := 894) (by decide +kernel), List.mem_of_getElem? (i := 1262) (by decide +kernel), List.mem_of_getElem? (i := 1263) (by decide +kernel)⟩
theorem lw_p58 : lw_okq (⟨"DroveRoadsModel", "go", "(I)V"⟩, 67) := ⟨⟨by decide +kernel, by decide +kernel⟩, List.mem_of_getElem? (i := 894) (by decide +kernel), List.mem_of_getElem? (i := 1274) (by decide +kernel), List.mem_of_getElem? (i := 1275) (by decide +kernel)⟩
theorem lw_p59 : lw_okq (⟨"DroveRoadsModel", "holds", "(II)Z"⟩, 67) := ⟨⟨by decide +kernel, by decide +kernel⟩, List.mem_of_getElem? (i := 894) (by decide +kernel), List.mem_of_getElem? (i := 1278) (by decide +kernel), List.mem_of_getElem? (i := 1279) (by decide +kernel)⟩
theorem lw_p60 : lw_okq (⟨"DroveRoadsModel", "earn", "(IIII)V"⟩, 67) := ⟨⟨by decide +kernel, by decide +kernel⟩, List.mem_of_getElem? (i := 894) (by decide +kernel), List.mem_of_getElem? (i := 1282) (by decide +kernel), List.mem_of_getElem? (i := 1283) (by decide +kernel)⟩
theorem lw_p61 : lw_okq (⟨"DroveRoadsModel", "rest", "(I)V"⟩, 67) := ⟨⟨by decide +kernel, by decide +kernel⟩, List.mem_of_getElem? (i := 894) (by decide +kernel), List.mem_of_getElem? (i := 1288) (by decide +kernel), List.mem_of_getElem? (i := 1289) (by decide +kernel)⟩
theorem lw_p62 : lw_okq (⟨"DroveRoadsModel", "walk", "(I)V"⟩, 67) := ⟨⟨by decide +kernel, by decide +kernel⟩, List.mem_of_getElem? (i := 894) (by decide +kernel), List.mem_of_getElem? (i := 1292) (by decide +kernel), List.mem_of_getElem? (i := 1293) (by decide +kernel)⟩
theorem lw_p63 : lw_okq (⟨"DroveRoadsModel", "eat", "(IZ)V"⟩, 67) := ⟨⟨by decide +kernel, by decide +kernel⟩, List.mem_of_getElem? (i := 894) (by decide +kernel), List.mem_of_getElem? (i := 1296) (by decide +kernel), List.mem_of_getElem? (i := 1297) (by decide +kernel)⟩
def lw_privs_4 : List (MethodName × Nat) := [(⟨"DroveRoadsModel", "sign", "()I"⟩, 67), (⟨"DroveRoadsModel", "settle", "(I)V"⟩, 67), (⟨"DroveRoadsModel", "pop", "()V"⟩, 67), (⟨"DroveRoadsModel", "step", "(II)V"⟩, 67), (⟨"DroveRoadsModel", "hold", "(I)V"⟩, 67), (⟨"DroveRoadsModel", "settleOnes", "(Z)V"⟩, 67), (⟨"DroveRoadsModel", "operand", "(I)I"⟩, 67), (⟨"DroveRoadsModel", "isKey", "()Z"⟩, 67), (⟨"DroveRoadsModel", "named", "()I"⟩, 67), (⟨"DroveRoadsModel", "readAct", "()V"⟩, 67), (⟨"DroveRoadsModel", "go", "(I)V"⟩, 67), (⟨"DroveRoadsModel", "holds", "(II)Z"⟩, 67), (⟨"DroveRoadsModel", "earn", "(IIII)V"⟩, 67), (⟨"DroveRoadsModel", "rest", "(I)V"⟩, 67), (⟨"DroveRoadsModel", "walk", "(I)V"⟩, 67), (⟨"DroveRoadsModel", "eat", "(IZ)V"⟩, 67)]
theorem lw_r4 : ∀ q ∈ lw_privs_4, lw_okq q := List.forall_mem_cons.mpr ⟨lw_p48, List.forall_mem_cons.mpr ⟨lw_p49, List.forall_mem_cons.mpr ⟨lw_p50, List.forall_mem_cons.mpr ⟨lw_p51, List.forall_mem_cons.mpr ⟨lw_p52, List.forall_mem_cons.mpr ⟨lw_p53, List.forall_mem_cons.mpr ⟨lw_p54, List.forall_mem_cons.mpr ⟨lw_p55, List.forall_mem_cons.mpr ⟨lw_p56, List.forall_mem_cons.mpr ⟨lw_p57, List.forall_mem_cons.mpr ⟨lw_p58, List.forall_mem_cons.mpr ⟨lw_p59, List.forall_mem_cons.mpr ⟨lw_p60, List.forall_mem_cons.mpr ⟨lw_p61, List.forall_mem_cons.mpr ⟨lw_p62, List.forall_mem_cons.mpr ⟨lw_p63, fun _ h => absurd h List.not_mem_nil⟩⟩⟩⟩⟩⟩⟩⟩⟩⟩⟩⟩⟩⟩⟩⟩
theorem lw_p64 : lw_okq (⟨"DroveRoadsModel", "fill", "(II)Z"⟩, 67) := ⟨⟨by decide +kernel, by decide +kernel⟩, List.mem_of_getElem? (i := 894) (by decide +kernel), List.mem_of_getElem? (i := 1304) (by decide +kernel), List.mem_of_getElem? (i := 1305) (by decide +kernel)⟩
theorem lw_p65 : lw_okq (⟨"DroveRoadsModel", "isBill", "(I)Z"⟩, 67) := ⟨⟨by decide +kernel, by decide +kernel⟩, List.mem_of_getElem? (i := 894) (by decide +kernel), List.mem_of_getElem? (i := 1332) (by decide +kernel), List.mem_of_getElem? (i := 1333) (by decide +kernel)⟩
def lw_privs_5 : List (MethodName × Nat) := [(⟨"DroveRoadsModel", "fill", "(II)Z"⟩, 67), (⟨"DroveRoadsModel", "isBill", "(I)Z"⟩, 67)]
theorem lw_r5 : ∀ q ∈ lw_privs_5, lw_okq q := List.forall_mem_cons.mpr ⟨lw_p64, List.forall_mem_cons.mpr ⟨lw_p65, fun _ h => absurd h List.not_mem_nil⟩⟩
def lw_privs : List (MethodName × Nat) := lw_privs_1 ++ (lw_privs_2 ++ (lw_privs_3 ++ (lw_privs_4 ++ (lw_privs_5))))
def lw_tbl : List Cond := k2_sels lw_privs ++ tables_1
theorem lw_privs_ok : ∀ q ∈ lw_privs, lw_okq q := by
  show ∀ q ∈ lw_privs_1 ++ (lw_privs_2 ++ (lw_privs_3 ++ (lw_privs_4 ++ (lw_privs_5)))), lw_okq q
  exact List.forall_mem_append.mpr ⟨lw_r1, List.forall_mem_append.mpr ⟨lw_r2, List.forall_mem_append.mpr ⟨lw_r3, List.forall_mem_append.mpr ⟨lw_r4, lw_r5⟩⟩⟩⟩
def RX0 : String := "DroveRoads$Bills"
def TX0 : u_T := fun k => match k with
  | 0 => ("DroveRoads$Bills", "count", "I", false)
  | 1 => ("DroveRoads$Bills", "passings", "LDroveRoads$Passings;", true)
  | 2 => ("DroveRoads$Bills", "amounts", "[I", true)
  | 3 => ("DroveRoads$Bills", "hands", "[I", true)
  | 4 => ("DroveRoads$Bills", "dueOn", "[I", true)
  | 5 => ("DroveRoads$Bills", "paidOn", "[I", true)
  | _ => ("DroveRoads$Bills", "paidTo", "[I", true)
def tyX0 : Nat → FieldType := fun k => match k with
  | 0 => .int
  | 1 => .object "DroveRoads$Passings"
  | 2 => .array .int
  | 3 => .array .int
  | 4 => .array .int
  | 5 => .array .int
  | _ => .array .int
theorem nmX0 : ∀ a, a < 7 → ∀ b, b < 7 → a ≠ b → (TX0 a).2.1 ≠ (TX0 b).2.1 := by decide +kernel
theorem tyX0_ok : ∀ k, k < 7 → parseFieldDescriptor (TX0 k).2.2.1 = some (tyX0 k) := by decide +kernel
abbrev cX0_init : ByteArray := prog_2_method_1_code
def yX0_init : MethodName := ⟨RX0, "<init>", "()V"⟩
abbrev cX0_has : ByteArray := prog_2_method_2_code
def yX0_has : MethodName := ⟨RX0, "has", "(I)Z"⟩
abbrev cX0_make : ByteArray := prog_2_method_3_code
def yX0_make : MethodName := ⟨RX0, "make", "(III)I"⟩
abbrev cX0_holderKnown : ByteArray := prog_2_method_4_code
def yX0_holderKnown : MethodName := ⟨RX0, "holderKnown", "(III)I"⟩
abbrev cX0_settle : ByteArray := prog_2_method_5_code
def yX0_settle : MethodName := ⟨RX0, "settle", "(II)I"⟩
abbrev cX0_tell : ByteArray := prog_2_method_6_code
def yX0_tell : MethodName := ⟨RX0, "tell", "(II)I"⟩
def RX1 : String := "DroveRoads$Herd"
def TX1 : u_T := fun k => match k with
  | 0 => ("DroveRoads$Herd", "need", "I", true)
  | 1 => ("DroveRoads$Herd", "start", "I", true)
  | 2 => ("DroveRoads$Herd", "heads", "I", false)
  | 3 => ("DroveRoads$Herd", "weight", "I", false)
  | 4 => ("DroveRoads$Herd", "sore", "I", false)
  | 5 => ("DroveRoads$Herd", "stance", "I", false)
  | 6 => ("DroveRoads$Herd", "orders", "LDroveRoads$Orders;", false)
  | 7 => ("DroveRoads$Herd", "coins", "I", false)
  | 8 => ("DroveRoads$Herd", "left", "I", false)
  | 9 => ("DroveRoads$Herd", "sold", "I", false)
  | 10 => ("DroveRoads$Herd", "dead", "I", false)
  | _ => ("DroveRoads$Herd", "ate", "I", false)
def tyX1 : Nat → FieldType := fun k => match k with
  | 0 => .int
  | 1 => .int
  | 2 => .int
  | 3 => .int
  | 4 => .int
  | 5 => .int
  | 6 => .object "DroveRoads$Orders"
  | 7 => .int
  | 8 => .int
  | 9 => .int
  | 10 => .int
  | _ => .int
theorem nmX1 : ∀ a, a < 12 → ∀ b, b < 12 → a ≠ b → (TX1 a).2.1 ≠ (TX1 b).2.1 := by decide +kernel
theorem tyX1_ok : ∀ k, k < 12 → parseFieldDescriptor (TX1 k).2.2.1 = some (tyX1 k) := by decide +kernel
abbrev cX1_init : ByteArray := prog_3_method_1_code
def yX1_init : MethodName := ⟨RX1, "<init>", "(IIII)V"⟩
abbrev cX1_want : ByteArray := prog_3_method_2_code
def yX1_want : MethodName := ⟨RX1, "want", "()I"⟩
abbrev cX1_sellOnTheWay : ByteArray := prog_3_method_3_code
def yX1_sellOnTheWay : MethodName := ⟨RX1, "sellOnTheWay", "(II)V"⟩
abbrev cX1_sellAtFair : ByteArray := prog_3_method_4_code
def yX1_sellAtFair : MethodName := ⟨RX1, "sellAtFair", "(I)V"⟩
abbrev cX1_sellHeads : ByteArray := prog_3_method_5_code
def yX1_sellHeads : MethodName := ⟨RX1, "sellHeads", "(I)I"⟩
abbrev cX1_earn : ByteArray := prog_3_method_6_code
def yX1_earn : MethodName := ⟨RX1, "earn", "(I)V"⟩
abbrev cX1_walk : ByteArray := prog_3_method_7_code
def yX1_walk : MethodName := ⟨RX1, "walk", "(I)I"⟩
abbrev cX1_eat : ByteArray := prog_3_method_8_code
def yX1_eat : MethodName := ⟨RX1, "eat", "(IZ)V"⟩
abbrev cX1_tell : ByteArray := prog_3_method_9_code
def yX1_tell : MethodName := ⟨RX1, "tell", "(I)I"⟩
def RX2 : String := "DroveRoads$Letters"
def TX2 : u_T := fun k => match k with
  | 0 => ("DroveRoads$Letters", "count", "I", false)
  | 1 => ("DroveRoads$Letters", "prices", "[I", true)
  | _ => ("DroveRoads$Letters", "sentOn", "[I", true)
def tyX2 : Nat → FieldType := fun k => match k with
  | 0 => .int
  | 1 => .array .int
  | _ => .array .int
theorem nmX2 : ∀ a, a < 3 → ∀ b, b < 3 → a ≠ b → (TX2 a).2.1 ≠ (TX2 b).2.1 := by decide +kernel
theorem tyX2_ok : ∀ k, k < 3 → parseFieldDescriptor (TX2 k).2.2.1 = some (tyX2 k) := by decide +kernel
abbrev cX2_init : ByteArray := prog_4_method_1_code
def yX2_init : MethodName := ⟨RX2, "<init>", "()V"⟩
abbrev cX2_send : ByteArray := prog_4_method_2_code
def yX2_send : MethodName := ⟨RX2, "send", "(II)I"⟩
abbrev cX2_priceKnown : ByteArray := prog_4_method_3_code
def yX2_priceKnown : MethodName := ⟨RX2, "priceKnown", "(II)I"⟩
def RX3 : String := "DroveRoads$Lexer"
def TX3 : u_T := fun k => match k with
  | 0 => ("DroveRoads$Lexer", "token", "I", false)
  | 1 => ("DroveRoads$Lexer", "place", "I", false)
  | 2 => ("DroveRoads$Lexer", "number", "I", false)
  | 3 => ("DroveRoads$Lexer", "text", "[B", true)
  | 4 => ("DroveRoads$Lexer", "length", "I", true)
  | _ => ("DroveRoads$Lexer", "next", "I", false)
def tyX3 : Nat → FieldType := fun k => match k with
  | 0 => .int
  | 1 => .int
  | 2 => .int
  | 3 => .array .byte
  | 4 => .int
  | _ => .int
theorem nmX3 : ∀ a, a < 6 → ∀ b, b < 6 → a ≠ b → (TX3 a).2.1 ≠ (TX3 b).2.1 := by decide +kernel
theorem tyX3_ok : ∀ k, k < 6 → parseFieldDescriptor (TX3 k).2.2.1 = some (tyX3 k) := by decide +kernel
abbrev cX3_init : ByteArray := prog_5_method_1_code
def yX3_init : MethodName := ⟨RX3, "<init>", "([BI)V"⟩
abbrev cX3_advance : ByteArray := prog_5_method_2_code
def yX3_advance : MethodName := ⟨RX3, "advance", "()V"⟩
abbrev cX3_scanWord : ByteArray := prog_5_method_3_code
def yX3_scanWord : MethodName := ⟨RX3, "scanWord", "()V"⟩
abbrev cX3_scanNumber : ByteArray := prog_5_method_4_code
def yX3_scanNumber : MethodName := ⟨RX3, "scanNumber", "()V"⟩
abbrev cX3_scanSign : ByteArray := prog_5_method_5_code
def yX3_scanSign : MethodName := ⟨RX3, "scanSign", "(C)V"⟩
abbrev cX3_wordToken : ByteArray := prog_5_method_6_code
def yX3_wordToken : MethodName := ⟨RX3, "wordToken", "()I"⟩
abbrev cX3_letterAt : ByteArray := prog_5_method_7_code
def yX3_letterAt : MethodName := ⟨RX3, "letterAt", "(I)I"⟩
abbrev cX3_byteAt : ByteArray := prog_5_method_8_code
def yX3_byteAt : MethodName := ⟨RX3, "byteAt", "(I)I"⟩
abbrev cX3_isBlank : ByteArray := prog_5_method_9_code
def yX3_isBlank : MethodName := ⟨RX3, "isBlank", "(I)Z"⟩
abbrev cX3_isLetter : ByteArray := prog_5_method_10_code
def yX3_isLetter : MethodName := ⟨RX3, "isLetter", "(I)Z"⟩
abbrev cX3_isDigit : ByteArray := prog_5_method_11_code
def yX3_isDigit : MethodName := ⟨RX3, "isDigit", "(I)Z"⟩
def RX4 : String := "DroveRoads$LoneWay"
def TX4 : u_T := fun k => match k with
  | 0 => ("DroveRoads$LoneWay", "days", "I", true)
  | 1 => ("DroveRoads$LoneWay", "road", "LDroveRoads$Road;", true)
  | 2 => ("DroveRoads$LoneWay", "startStance", "I", true)
  | _ => ("DroveRoads$LoneWay", "startSore", "I", true)
def tyX4 : Nat → FieldType := fun k => match k with
  | 0 => .int
  | 1 => .object "DroveRoads$Road"
  | 2 => .int
  | _ => .int
theorem nmX4 : ∀ a, a < 4 → ∀ b, b < 4 → a ≠ b → (TX4 a).2.1 ≠ (TX4 b).2.1 := by decide +kernel
theorem tyX4_ok : ∀ k, k < 4 → parseFieldDescriptor (TX4 k).2.2.1 = some (tyX4 k) := by decide +kernel
abbrev cX4_init : ByteArray := prog_6_method_1_code
def yX4_init : MethodName := ⟨RX4, "<init>", "(LDroveRoads$Road;III)V"⟩
abbrev cX4_comesToFair : ByteArray := prog_6_method_2_code
def yX4_comesToFair : MethodName := ⟨RX4, "comesToFair", "()Z"⟩
abbrev cX4_bestGain : ByteArray := prog_6_method_3_code
def yX4_bestGain : MethodName := ⟨RX4, "bestGain", "()I"⟩
abbrev cX4_bestAct : ByteArray := prog_6_method_4_code
def yX4_bestAct : MethodName := ⟨RX4, "bestAct", "(I)I"⟩
abbrev cX4_mayWalk : ByteArray := prog_6_method_5_code
def yX4_mayWalk : MethodName := ⟨RX4, "mayWalk", "(II)Z"⟩
abbrev cX4_rested : ByteArray := prog_6_method_6_code
def yX4_rested : MethodName := ⟨RX4, "rested", "(I)I"⟩
def RX5 : String := "DroveRoads$Orders"
def TX5 : u_T := fun k => match k with
  | 0 => ("DroveRoads$Orders", "cells", "[I", true)
  | 1 => ("DroveRoads$Orders", "cellsEnd", "[I", true)
  | 2 => ("DroveRoads$Orders", "acts", "[I", true)
  | 3 => ("DroveRoads$Orders", "lines", "I", false)
  | _ => ("DroveRoads$Orders", "cellCount", "I", false)
def tyX5 : Nat → FieldType := fun k => match k with
  | 0 => .array .int
  | 1 => .array .int
  | 2 => .array .int
  | 3 => .int
  | _ => .int
theorem nmX5 : ∀ a, a < 5 → ∀ b, b < 5 → a ≠ b → (TX5 a).2.1 ≠ (TX5 b).2.1 := by decide +kernel
theorem tyX5_ok : ∀ k, k < 5 → parseFieldDescriptor (TX5 k).2.2.1 = some (tyX5 k) := by decide +kernel
abbrev cX5_init : ByteArray := prog_7_method_1_code
def yX5_init : MethodName := ⟨RX5, "<init>", "()V"⟩
abbrev cX5_clear : ByteArray := prog_7_method_2_code
def yX5_clear : MethodName := ⟨RX5, "clear", "()V"⟩
abbrev cX5_addCell : ByteArray := prog_7_method_3_code
def yX5_addCell : MethodName := ⟨RX5, "addCell", "(I)V"⟩
abbrev cX5_addLine : ByteArray := prog_7_method_4_code
def yX5_addLine : MethodName := ⟨RX5, "addLine", "(I)V"⟩
def RX6 : String := "DroveRoads$Parser"
def TX6 : u_T := fun k => match k with
  | 0 => ("DroveRoads$Parser", "fault", "I", false)
  | 1 => ("DroveRoads$Parser", "faultPlace", "I", false)
  | 2 => ("DroveRoads$Parser", "lexer", "LDroveRoads$Lexer;", true)
  | 3 => ("DroveRoads$Parser", "written", "LDroveRoads$Orders;", true)
  | _ => ("DroveRoads$Parser", "operands", "I", false)
def tyX6 : Nat → FieldType := fun k => match k with
  | 0 => .int
  | 1 => .int
  | 2 => .object "DroveRoads$Lexer"
  | 3 => .object "DroveRoads$Orders"
  | _ => .int
theorem nmX6 : ∀ a, a < 5 → ∀ b, b < 5 → a ≠ b → (TX6 a).2.1 ≠ (TX6 b).2.1 := by decide +kernel
theorem tyX6_ok : ∀ k, k < 5 → parseFieldDescriptor (TX6 k).2.2.1 = some (tyX6 k) := by decide +kernel
abbrev cX6_init : ByteArray := prog_8_method_1_code
def yX6_init : MethodName := ⟨RX6, "<init>", "([BILDroveRoads$Orders;)V"⟩
abbrev cX6_read : ByteArray := prog_8_method_2_code
def yX6_read : MethodName := ⟨RX6, "read", "()Z"⟩
abbrev cX6_readLine : ByteArray := prog_8_method_3_code
def yX6_readLine : MethodName := ⟨RX6, "readLine", "()Z"⟩
abbrev cX6_readAct : ByteArray := prog_8_method_4_code
def yX6_readAct : MethodName := ⟨RX6, "readAct", "()Z"⟩
abbrev cX6_endLine : ByteArray := prog_8_method_5_code
def yX6_endLine : MethodName := ⟨RX6, "endLine", "(I)Z"⟩
abbrev cX6_readE : ByteArray := prog_8_method_6_code
def yX6_readE : MethodName := ⟨RX6, "readE", "(I)Z"⟩
abbrev cX6_readBoth : ByteArray := prog_8_method_7_code
def yX6_readBoth : MethodName := ⟨RX6, "readBoth", "(I)Z"⟩
abbrev cX6_readOne : ByteArray := prog_8_method_8_code
def yX6_readOne : MethodName := ⟨RX6, "readOne", "(I)Z"⟩
abbrev cX6_readSum : ByteArray := prog_8_method_9_code
def yX6_readSum : MethodName := ⟨RX6, "readSum", "(I)Z"⟩
abbrev cX6_readTerm : ByteArray := prog_8_method_10_code
def yX6_readTerm : MethodName := ⟨RX6, "readTerm", "(I)Z"⟩
abbrev cX6_readOperand : ByteArray := prog_8_method_11_code
def yX6_readOperand : MethodName := ⟨RX6, "readOperand", "()Z"⟩
abbrev cX6_take : ByteArray := prog_8_method_12_code
def yX6_take : MethodName := ⟨RX6, "take", "(I)Z"⟩
abbrev cX6_write : ByteArray := prog_8_method_13_code
def yX6_write : MethodName := ⟨RX6, "write", "(I)Z"⟩
abbrev cX6_refuse : ByteArray := prog_8_method_14_code
def yX6_refuse : MethodName := ⟨RX6, "refuse", "()Z"⟩
abbrev cX6_refuseFor : ByteArray := prog_8_method_15_code
def yX6_refuseFor : MethodName := ⟨RX6, "refuseFor", "(I)Z"⟩
def RX7 : String := "DroveRoads$Passings"
def TX7 : u_T := fun k => match k with
  | 0 => ("DroveRoads$Passings", "count", "I", false)
  | 1 => ("DroveRoads$Passings", "billOf", "[I", true)
  | 2 => ("DroveRoads$Passings", "fromHand", "[I", true)
  | 3 => ("DroveRoads$Passings", "toHand", "[I", true)
  | 4 => ("DroveRoads$Passings", "passedOn", "[I", true)
  | 5 => ("DroveRoads$Passings", "toldOn", "[I", true)
  | 6 => ("DroveRoads$Passings", "untoldOn", "[I", true)
  | _ => ("DroveRoads$Passings", "byDay", "[I", true)
def tyX7 : Nat → FieldType := fun k => match k with
  | 0 => .int
  | 1 => .array .int
  | 2 => .array .int
  | 3 => .array .int
  | 4 => .array .int
  | 5 => .array .int
  | 6 => .array .int
  | _ => .array .int
theorem nmX7 : ∀ a, a < 8 → ∀ b, b < 8 → a ≠ b → (TX7 a).2.1 ≠ (TX7 b).2.1 := by decide +kernel
theorem tyX7_ok : ∀ k, k < 8 → parseFieldDescriptor (TX7 k).2.2.1 = some (tyX7 k) := by decide +kernel
abbrev cX7_init : ByteArray := prog_9_method_1_code
def yX7_init : MethodName := ⟨RX7, "<init>", "()V"⟩
abbrev cX7_isHand : ByteArray := prog_9_method_2_code
def yX7_isHand : MethodName := ⟨RX7, "isHand", "(I)Z"⟩
abbrev cX7_add : ByteArray := prog_9_method_3_code
def yX7_add : MethodName := ⟨RX7, "add", "(IIIII)I"⟩
abbrev cX7_placeByDay : ByteArray := prog_9_method_4_code
def yX7_placeByDay : MethodName := ⟨RX7, "placeByDay", "(I)V"⟩
abbrev cX7_takeBack : ByteArray := prog_9_method_5_code
def yX7_takeBack : MethodName := ⟨RX7, "takeBack", "(II)Z"⟩
abbrev cX7_follow : ByteArray := prog_9_method_6_code
def yX7_follow : MethodName := ⟨RX7, "follow", "(IIII)I"⟩
abbrev cX7_isKnown : ByteArray := prog_9_method_7_code
def yX7_isKnown : MethodName := ⟨RX7, "isKnown", "(II)Z"⟩
def RX8 : String := "DroveRoads$Reckoner"
def TX8 : u_T := fun k => match k with
  | 0 => ("DroveRoads$Reckoner", "nameValues", "[I", true)
  | 1 => ("DroveRoads$Reckoner", "stack", "[I", true)
  | _ => ("DroveRoads$Reckoner", "top", "I", false)
def tyX8 : Nat → FieldType := fun k => match k with
  | 0 => .array .int
  | 1 => .array .int
  | _ => .int
theorem nmX8 : ∀ a, a < 3 → ∀ b, b < 3 → a ≠ b → (TX8 a).2.1 ≠ (TX8 b).2.1 := by decide +kernel
theorem tyX8_ok : ∀ k, k < 3 → parseFieldDescriptor (TX8 k).2.2.1 = some (tyX8 k) := by decide +kernel
abbrev cX8_init : ByteArray := prog_10_method_1_code
def yX8_init : MethodName := ⟨RX8, "<init>", "()V"⟩
abbrev cX8_learn : ByteArray := prog_10_method_2_code
def yX8_learn : MethodName := ⟨RX8, "learn", "(LDroveRoads$Herd;LDroveRoads$Road;II)V"⟩
abbrev cX8_choose : ByteArray := prog_10_method_3_code
def yX8_choose : MethodName := ⟨RX8, "choose", "(LDroveRoads$Orders;)I"⟩
abbrev cX8_reckon : ByteArray := prog_10_method_4_code
def yX8_reckon : MethodName := ⟨RX8, "reckon", "([III)I"⟩
abbrev cX8_reckonToken : ByteArray := prog_10_method_5_code
def yX8_reckonToken : MethodName := ⟨RX8, "reckonToken", "(I)V"⟩
abbrev cX8_join : ByteArray := prog_10_method_6_code
def yX8_join : MethodName := ⟨RX8, "join", "(III)I"⟩
abbrev cX8_push : ByteArray := prog_10_method_7_code
def yX8_push : MethodName := ⟨RX8, "push", "(I)V"⟩
abbrev cX8_pop : ByteArray := prog_10_method_8_code
def yX8_pop : MethodName := ⟨RX8, "pop", "()I"⟩
def RX9 : String := "DroveRoads$Road"
def TX9 : u_T := fun k => match k with
  | 0 => ("DroveRoads$Road", "stances", "I", false)
  | 1 => ("DroveRoads$Road", "stageMiles", "[I", true)
  | 2 => ("DroveRoads$Road", "toFair", "[I", true)
  | 3 => ("DroveRoads$Road", "grassNow", "[I", true)
  | 4 => ("DroveRoads$Road", "grassGrows", "[I", true)
  | 5 => ("DroveRoads$Road", "grassMost", "[I", true)
  | _ => ("DroveRoads$Road", "leftBefore", "[I", true)
def tyX9 : Nat → FieldType := fun k => match k with
  | 0 => .int
  | 1 => .array .int
  | 2 => .array .int
  | 3 => .array .int
  | 4 => .array .int
  | 5 => .array .int
  | _ => .array .int
theorem nmX9 : ∀ a, a < 7 → ∀ b, b < 7 → a ≠ b → (TX9 a).2.1 ≠ (TX9 b).2.1 := by decide +kernel
theorem tyX9_ok : ∀ k, k < 7 → parseFieldDescriptor (TX9 k).2.2.1 = some (tyX9 k) := by decide +kernel
abbrev cX9_init : ByteArray := prog_11_method_1_code
def yX9_init : MethodName := ⟨RX9, "<init>", "()V"⟩
abbrev cX9_canBeMiles : ByteArray := prog_11_method_2_code
def yX9_canBeMiles : MethodName := ⟨RX9, "canBeMiles", "(I)Z"⟩
abbrev cX9_has : ByteArray := prog_11_method_3_code
def yX9_has : MethodName := ⟨RX9, "has", "(I)Z"⟩
abbrev cX9_fair : ByteArray := prog_11_method_4_code
def yX9_fair : MethodName := ⟨RX9, "fair", "()I"⟩
abbrev cX9_lengthen : ByteArray := prog_11_method_5_code
def yX9_lengthen : MethodName := ⟨RX9, "lengthen", "(I)I"⟩
abbrev cX9_setFirstMiles : ByteArray := prog_11_method_6_code
def yX9_setFirstMiles : MethodName := ⟨RX9, "setFirstMiles", "(I)V"⟩
abbrev cX9_measure : ByteArray := prog_11_method_7_code
def yX9_measure : MethodName := ⟨RX9, "measure", "()V"⟩
abbrev cX9_milesOfStage : ByteArray := prog_11_method_8_code
def yX9_milesOfStage : MethodName := ⟨RX9, "milesOfStage", "(I)I"⟩
abbrev cX9_milesToFair : ByteArray := prog_11_method_9_code
def yX9_milesToFair : MethodName := ⟨RX9, "milesToFair", "(I)I"⟩
abbrev cX9_grassAt : ByteArray := prog_11_method_10_code
def yX9_grassAt : MethodName := ⟨RX9, "grassAt", "(I)I"⟩
abbrev cX9_sow : ByteArray := prog_11_method_11_code
def yX9_sow : MethodName := ⟨RX9, "sow", "(IIII)Z"⟩
abbrev cX9_grow : ByteArray := prog_11_method_12_code
def yX9_grow : MethodName := ⟨RX9, "grow", "()V"⟩
abbrev cX9_graze : ByteArray := prog_11_method_13_code
def yX9_graze : MethodName := ⟨RX9, "graze", "(II)I"⟩
abbrev cX9_noteLeft : ByteArray := prog_11_method_14_code
def yX9_noteLeft : MethodName := ⟨RX9, "noteLeft", "(II)V"⟩
abbrev cX9_tell : ByteArray := prog_11_method_15_code
def yX9_tell : MethodName := ⟨RX9, "tell", "(II)I"⟩
def RX10 : String := "DroveRoads"
def TX10 : u_T := fun k => match k with
  | 0 => ("DroveRoads", "road", "LDroveRoads$Road;", true)
  | 1 => ("DroveRoads", "letters", "LDroveRoads$Letters;", true)
  | 2 => ("DroveRoads", "bills", "LDroveRoads$Bills;", true)
  | 3 => ("DroveRoads", "herds", "[LDroveRoads$Herd;", true)
  | 4 => ("DroveRoads", "tape", "[B", true)
  | 5 => ("DroveRoads", "reckoner", "LDroveRoads$Reckoner;", true)
  | 6 => ("DroveRoads", "spareOrders", "LDroveRoads$Orders;", false)
  | 7 => ("DroveRoads", "herdCount", "I", false)
  | 8 => ("DroveRoads", "tapeBytes", "I", false)
  | 9 => ("DroveRoads", "latestFault", "I", false)
  | 10 => ("DroveRoads", "latestFaultPlace", "I", false)
  | _ => ("DroveRoads", "today", "I", false)
def tyX10 : Nat → FieldType := fun k => match k with
  | 0 => .object "DroveRoads$Road"
  | 1 => .object "DroveRoads$Letters"
  | 2 => .object "DroveRoads$Bills"
  | 3 => .array (.object "DroveRoads$Herd")
  | 4 => .array .byte
  | 5 => .object "DroveRoads$Reckoner"
  | 6 => .object "DroveRoads$Orders"
  | 7 => .int
  | 8 => .int
  | 9 => .int
  | 10 => .int
  | _ => .int
theorem nmX10 : ∀ a, a < 12 → ∀ b, b < 12 → a ≠ b → (TX10 a).2.1 ≠ (TX10 b).2.1 := by decide +kernel
theorem tyX10_ok : ∀ k, k < 12 → parseFieldDescriptor (TX10 k).2.2.1 = some (tyX10 k) := by decide +kernel
abbrev cX10_init : ByteArray := prog_1_method_1_code
def yX10_init : MethodName := ⟨RX10, "<init>", "()V"⟩
abbrev cX10_stance : ByteArray := prog_1_method_2_code
def yX10_stance : MethodName := ⟨RX10, "stance", "(I)I"⟩
abbrev cX10_first : ByteArray := prog_1_method_3_code
def yX10_first : MethodName := ⟨RX10, "first", "(I)Z"⟩
abbrev cX10_grass : ByteArray := prog_1_method_4_code
def yX10_grass : MethodName := ⟨RX10, "grass", "(IIII)Z"⟩
abbrev cX10_herd : ByteArray := prog_1_method_5_code
def yX10_herd : MethodName := ⟨RX10, "herd", "(IIII)I"⟩
abbrev cX10_letter : ByteArray := prog_1_method_6_code
def yX10_letter : MethodName := ⟨RX10, "letter", "(I)I"⟩
abbrev cX10_known : ByteArray := prog_1_method_7_code
def yX10_known : MethodName := ⟨RX10, "known", "(I)I"⟩
abbrev cX10_feed : ByteArray := prog_1_method_8_code
def yX10_feed : MethodName := ⟨RX10, "feed", "(IIIII)I"⟩
abbrev cX10_end : ByteArray := prog_1_method_9_code
def yX10_end : MethodName := ⟨RX10, "end", "(I)I"⟩
abbrev cX10_orders : ByteArray := prog_1_method_10_code
def yX10_orders : MethodName := ⟨RX10, "orders", "(I)I"⟩
abbrev cX10_fault : ByteArray := prog_1_method_11_code
def yX10_fault : MethodName := ⟨RX10, "fault", "(I)I"⟩
abbrev cX10_days : ByteArray := prog_1_method_12_code
def yX10_days : MethodName := ⟨RX10, "days", "(I)I"⟩
abbrev cX10_of : ByteArray := prog_1_method_13_code
def yX10_of : MethodName := ⟨RX10, "of", "(II)I"⟩
abbrev cX10_at : ByteArray := prog_1_method_14_code
def yX10_at : MethodName := ⟨RX10, "at", "(II)I"⟩
abbrev cX10_gain : ByteArray := prog_1_method_15_code
def yX10_gain : MethodName := ⟨RX10, "gain", "(II)I"⟩
abbrev cX10_length : ByteArray := prog_1_method_16_code
def yX10_length : MethodName := ⟨RX10, "length", "(II)I"⟩
abbrev cX10_act : ByteArray := prog_1_method_17_code
def yX10_act : MethodName := ⟨RX10, "act", "(III)I"⟩
abbrev cX10_bill : ByteArray := prog_1_method_18_code
def yX10_bill : MethodName := ⟨RX10, "bill", "(III)I"⟩
abbrev cX10_pass : ByteArray := prog_1_method_19_code
def yX10_pass : MethodName := ⟨RX10, "pass", "(IIII)I"⟩
abbrev cX10_untell : ByteArray := prog_1_method_20_code
def yX10_untell : MethodName := ⟨RX10, "untell", "(I)Z"⟩
abbrev cX10_holder : ByteArray := prog_1_method_21_code
def yX10_holder : MethodName := ⟨RX10, "holder", "(III)I"⟩
abbrev cX10_pay : ByteArray := prog_1_method_22_code
def yX10_pay : MethodName := ⟨RX10, "pay", "(I)I"⟩
abbrev cX10_paid : ByteArray := prog_1_method_23_code
def yX10_paid : MethodName := ⟨RX10, "paid", "(II)I"⟩
abbrev cX10_about : ByteArray := prog_1_method_24_code
def yX10_about : MethodName := ⟨RX10, "about", "(I)I"⟩
abbrev cX10_within : ByteArray := prog_1_method_25_code
def yX10_within : MethodName := ⟨RX10, "within", "(III)Z"⟩
abbrev cX10_findHerd : ByteArray := prog_1_method_26_code
def yX10_findHerd : MethodName := ⟨RX10, "findHerd", "(I)LDroveRoads$Herd;"⟩
abbrev cX10_priceKnownAt : ByteArray := prog_1_method_27_code
def yX10_priceKnownAt : MethodName := ⟨RX10, "priceKnownAt", "(I)I"⟩
abbrev cX10_feedFour : ByteArray := prog_1_method_28_code
def yX10_feedFour : MethodName := ⟨RX10, "feedFour", "(I)V"⟩
abbrev cX10_findWay : ByteArray := prog_1_method_29_code
def yX10_findWay : MethodName := ⟨RX10, "findWay", "(II)LDroveRoads$LoneWay;"⟩
abbrev cX10_passDay : ByteArray := prog_1_method_30_code
def yX10_passDay : MethodName := ⟨RX10, "passDay", "()V"⟩
abbrev cX10_drive : ByteArray := prog_1_method_31_code
def yX10_drive : MethodName := ⟨RX10, "drive", "(LDroveRoads$Herd;)V"⟩
abbrev cX10_walkOn : ByteArray := prog_1_method_32_code
def yX10_walkOn : MethodName := ⟨RX10, "walkOn", "(LDroveRoads$Herd;)V"⟩
def RX11 : String := "DroveRoadsModel"
def TX11 : u_T := fun k => match k with
  | 0 => ("DroveRoadsModel", "today", "I", false)
  | 1 => ("DroveRoadsModel", "stances", "I", false)
  | 2 => ("DroveRoadsModel", "miles", "[I", true)
  | 3 => ("DroveRoadsModel", "grass", "[I", true)
  | 4 => ("DroveRoadsModel", "grows", "[I", true)
  | 5 => ("DroveRoadsModel", "most", "[I", true)
  | 6 => ("DroveRoadsModel", "footsore", "[I", true)
  | 7 => ("DroveRoadsModel", "letters", "I", false)
  | 8 => ("DroveRoadsModel", "priceOf", "[I", true)
  | 9 => ("DroveRoadsModel", "sent", "[I", true)
  | 10 => ("DroveRoadsModel", "herds", "I", false)
  | 11 => ("DroveRoadsModel", "heads", "[I", true)
  | 12 => ("DroveRoadsModel", "weight", "[I", true)
  | 13 => ("DroveRoadsModel", "need", "[I", true)
  | 14 => ("DroveRoadsModel", "start", "[I", true)
  | 15 => ("DroveRoadsModel", "sore", "[I", true)
  | 16 => ("DroveRoadsModel", "stance", "[I", true)
  | 17 => ("DroveRoadsModel", "coins", "[I", true)
  | 18 => ("DroveRoadsModel", "left", "[I", true)
  | 19 => ("DroveRoadsModel", "sold", "[I", true)
  | 20 => ("DroveRoadsModel", "dead", "[I", true)
  | 21 => ("DroveRoadsModel", "eaten", "[I", true)
  | 22 => ("DroveRoadsModel", "steps", "[I", true)
  | 23 => ("DroveRoadsModel", "numbers", "[I", true)
  | 24 => ("DroveRoadsModel", "lineAt", "[I", true)
  | 25 => ("DroveRoadsModel", "does", "[I", true)
  | 26 => ("DroveRoadsModel", "sells", "[I", true)
  | 27 => ("DroveRoadsModel", "lines", "[I", true)
  | 28 => ("DroveRoadsModel", "newSteps", "[I", true)
  | 29 => ("DroveRoadsModel", "newNumbers", "[I", true)
  | 30 => ("DroveRoadsModel", "newAt", "[I", true)
  | 31 => ("DroveRoadsModel", "newDoes", "[I", true)
  | 32 => ("DroveRoadsModel", "newSells", "[I", true)
  | 33 => ("DroveRoadsModel", "newLines", "I", false)
  | 34 => ("DroveRoadsModel", "newMany", "I", false)
  | 35 => ("DroveRoadsModel", "values", "I", false)
  | 36 => ("DroveRoadsModel", "tape", "[I", true)
  | 37 => ("DroveRoadsModel", "taped", "I", false)
  | 38 => ("DroveRoadsModel", "fault", "I", false)
  | 39 => ("DroveRoadsModel", "faultPlace", "I", false)
  | 40 => ("DroveRoadsModel", "at", "I", false)
  | 41 => ("DroveRoadsModel", "size", "I", false)
  | 42 => ("DroveRoadsModel", "sort", "I", false)
  | 43 => ("DroveRoadsModel", "place", "I", false)
  | 44 => ("DroveRoadsModel", "number", "I", false)
  | 45 => ("DroveRoadsModel", "word", "J", false)
  | 46 => ("DroveRoadsModel", "waits", "[I", true)
  | 47 => ("DroveRoadsModel", "waiting", "I", false)
  | 48 => ("DroveRoadsModel", "deep", "I", false)
  | 49 => ("DroveRoadsModel", "pile", "[I", true)
  | 50 => ("DroveRoadsModel", "names", "[I", true)
  | 51 => ("DroveRoadsModel", "gains", "[I", true)
  | 52 => ("DroveRoadsModel", "lasts", "[I", true)
  | 53 => ("DroveRoadsModel", "walks", "[Z", true)
  | 54 => ("DroveRoadsModel", "bills", "I", false)
  | 55 => ("DroveRoadsModel", "passings", "I", false)
  | 56 => ("DroveRoadsModel", "amount", "[I", true)
  | 57 => ("DroveRoadsModel", "madeTo", "[I", true)
  | 58 => ("DroveRoadsModel", "due", "[I", true)
  | 59 => ("DroveRoadsModel", "paidOn", "[I", true)
  | 60 => ("DroveRoadsModel", "paidTo", "[I", true)
  | 61 => ("DroveRoadsModel", "passOf", "[I", true)
  | 62 => ("DroveRoadsModel", "passFrom", "[I", true)
  | 63 => ("DroveRoadsModel", "passTo", "[I", true)
  | 64 => ("DroveRoadsModel", "passDay", "[I", true)
  | 65 => ("DroveRoadsModel", "toldOn", "[I", true)
  | _ => ("DroveRoadsModel", "untoldOn", "[I", true)
def tyX11 : Nat → FieldType := fun k => match k with
  | 0 => .int
  | 1 => .int
  | 2 => .array .int
  | 3 => .array .int
  | 4 => .array .int
  | 5 => .array .int
  | 6 => .array .int
  | 7 => .int
  | 8 => .array .int
  | 9 => .array .int
  | 10 => .int
  | 11 => .array .int
  | 12 => .array .int
  | 13 => .array .int
  | 14 => .array .int
  | 15 => .array .int
  | 16 => .array .int
  | 17 => .array .int
  | 18 => .array .int
  | 19 => .array .int
  | 20 => .array .int
  | 21 => .array .int
  | 22 => .array .int
  | 23 => .array .int
  | 24 => .array .int
  | 25 => .array .int
  | 26 => .array .int
  | 27 => .array .int
  | 28 => .array .int
  | 29 => .array .int
  | 30 => .array .int
  | 31 => .array .int
  | 32 => .array .int
  | 33 => .int
  | 34 => .int
  | 35 => .int
  | 36 => .array .int
  | 37 => .int
  | 38 => .int
  | 39 => .int
  | 40 => .int
  | 41 => .int
  | 42 => .int
  | 43 => .int
  | 44 => .int
  | 45 => .long
  | 46 => .array .int
  | 47 => .int
  | 48 => .int
  | 49 => .array .int
  | 50 => .array .int
  | 51 => .array .int
  | 52 => .array .int
  | 53 => .array .boolean
  | 54 => .int
  | 55 => .int
  | 56 => .array .int
  | 57 => .array .int
  | 58 => .array .int
  | 59 => .array .int
  | 60 => .array .int
  | 61 => .array .int
  | 62 => .array .int
  | 63 => .array .int
  | 64 => .array .int
  | 65 => .array .int
  | _ => .array .int
theorem nmX11 : ∀ a, a < 67 → ∀ b, b < 67 → a ≠ b → (TX11 a).2.1 ≠ (TX11 b).2.1 := by decide +kernel
theorem tyX11_ok : ∀ k, k < 67 → parseFieldDescriptor (TX11 k).2.2.1 = some (tyX11 k) := by decide +kernel
abbrev cX11_init : ByteArray := prog_13_method_1_code
def yX11_init : MethodName := ⟨RX11, "<init>", "()V"⟩
abbrev cX11_isStance : ByteArray := prog_13_method_2_code
def yX11_isStance : MethodName := ⟨RX11, "isStance", "(I)Z"⟩
abbrev cX11_fair : ByteArray := prog_13_method_3_code
def yX11_fair : MethodName := ⟨RX11, "fair", "()I"⟩
abbrev cX11_areMiles : ByteArray := prog_13_method_4_code
def yX11_areMiles : MethodName := ⟨RX11, "areMiles", "(I)Z"⟩
abbrev cX11_stance : ByteArray := prog_13_method_5_code
def yX11_stance : MethodName := ⟨RX11, "stance", "(I)I"⟩
abbrev cX11_first : ByteArray := prog_13_method_6_code
def yX11_first : MethodName := ⟨RX11, "first", "(I)Z"⟩
abbrev cX11_grass : ByteArray := prog_13_method_7_code
def yX11_grass : MethodName := ⟨RX11, "grass", "(IIII)Z"⟩
abbrev cX11_toFair : ByteArray := prog_13_method_8_code
def yX11_toFair : MethodName := ⟨RX11, "toFair", "(I)I"⟩
abbrev cX11_letter : ByteArray := prog_13_method_9_code
def yX11_letter : MethodName := ⟨RX11, "letter", "(I)I"⟩
abbrev cX11_knownAt : ByteArray := prog_13_method_10_code
def yX11_knownAt : MethodName := ⟨RX11, "knownAt", "(II)I"⟩
abbrev cX11_known : ByteArray := prog_13_method_11_code
def yX11_known : MethodName := ⟨RX11, "known", "(I)I"⟩
abbrev cX11_isHerd : ByteArray := prog_13_method_12_code
def yX11_isHerd : MethodName := ⟨RX11, "isHerd", "(I)Z"⟩
abbrev cX11_herd : ByteArray := prog_13_method_13_code
def yX11_herd : MethodName := ⟨RX11, "herd", "(IIII)I"⟩
abbrev cX11_of : ByteArray := prog_13_method_14_code
def yX11_of : MethodName := ⟨RX11, "of", "(II)I"⟩
abbrev cX11_at : ByteArray := prog_13_method_15_code
def yX11_at : MethodName := ⟨RX11, "at", "(II)I"⟩
abbrev cX11_feed : ByteArray := prog_13_method_16_code
def yX11_feed : MethodName := ⟨RX11, "feed", "(IIIII)I"⟩
abbrev cX11_four : ByteArray := prog_13_method_17_code
def yX11_four : MethodName := ⟨RX11, "four", "(I)V"⟩
abbrev cX11_end : ByteArray := prog_13_method_18_code
def yX11_end : MethodName := ⟨RX11, "end", "(I)I"⟩
abbrev cX11_here : ByteArray := prog_13_method_19_code
def yX11_here : MethodName := ⟨RX11, "here", "(I)I"⟩
abbrev cX11_isLetter : ByteArray := prog_13_method_20_code
def yX11_isLetter : MethodName := ⟨RX11, "isLetter", "(I)Z"⟩
abbrev cX11_isDigit : ByteArray := prog_13_method_21_code
def yX11_isDigit : MethodName := ⟨RX11, "isDigit", "(I)Z"⟩
abbrev cX11_isSign : ByteArray := prog_13_method_22_code
def yX11_isSign : MethodName := ⟨RX11, "isSign", "(I)Z"⟩
abbrev cX11_next : ByteArray := prog_13_method_23_code
def yX11_next : MethodName := ⟨RX11, "next", "()V"⟩
abbrev cX11_wrong : ByteArray := prog_13_method_24_code
def yX11_wrong : MethodName := ⟨RX11, "wrong", "(I)V"⟩
abbrev cX11_isWord : ByteArray := prog_13_method_25_code
def yX11_isWord : MethodName := ⟨RX11, "isWord", "(J)Z"⟩
abbrev cX11_isKey : ByteArray := prog_13_method_26_code
def yX11_isKey : MethodName := ⟨RX11, "isKey", "()Z"⟩
abbrev cX11_named : ByteArray := prog_13_method_27_code
def yX11_named : MethodName := ⟨RX11, "named", "()I"⟩
abbrev cX11_step : ByteArray := prog_13_method_28_code
def yX11_step : MethodName := ⟨RX11, "step", "(II)V"⟩
abbrev cX11_hold : ByteArray := prog_13_method_29_code
def yX11_hold : MethodName := ⟨RX11, "hold", "(I)V"⟩
abbrev cX11_pop : ByteArray := prog_13_method_30_code
def yX11_pop : MethodName := ⟨RX11, "pop", "()V"⟩
abbrev cX11_settle : ByteArray := prog_13_method_31_code
def yX11_settle : MethodName := ⟨RX11, "settle", "(I)V"⟩
abbrev cX11_isOpen : ByteArray := prog_13_method_32_code
def yX11_isOpen : MethodName := ⟨RX11, "isOpen", "()Z"⟩
abbrev cX11_readE : ByteArray := prog_13_method_33_code
def yX11_readE : MethodName := ⟨RX11, "readE", "()V"⟩
abbrev cX11_operand : ByteArray := prog_13_method_34_code
def yX11_operand : MethodName := ⟨RX11, "operand", "(I)I"⟩
abbrev cX11_sign : ByteArray := prog_13_method_35_code
def yX11_sign : MethodName := ⟨RX11, "sign", "()I"⟩
abbrev cX11_settleOnes : ByteArray := prog_13_method_36_code
def yX11_settleOnes : MethodName := ⟨RX11, "settleOnes", "(Z)V"⟩
abbrev cX11_readAct : ByteArray := prog_13_method_37_code
def yX11_readAct : MethodName := ⟨RX11, "readAct", "()V"⟩
abbrev cX11_orders : ByteArray := prog_13_method_38_code
def yX11_orders : MethodName := ⟨RX11, "orders", "(I)I"⟩
abbrev cX11_fault : ByteArray := prog_13_method_39_code
def yX11_fault : MethodName := ⟨RX11, "fault", "(I)I"⟩
abbrev cX11_holds : ByteArray := prog_13_method_40_code
def yX11_holds : MethodName := ⟨RX11, "holds", "(II)Z"⟩
abbrev cX11_earn : ByteArray := prog_13_method_41_code
def yX11_earn : MethodName := ⟨RX11, "earn", "(IIII)V"⟩
abbrev cX11_rest : ByteArray := prog_13_method_42_code
def yX11_rest : MethodName := ⟨RX11, "rest", "(I)V"⟩
abbrev cX11_walk : ByteArray := prog_13_method_43_code
def yX11_walk : MethodName := ⟨RX11, "walk", "(I)V"⟩
abbrev cX11_eat : ByteArray := prog_13_method_44_code
def yX11_eat : MethodName := ⟨RX11, "eat", "(IZ)V"⟩
abbrev cX11_go : ByteArray := prog_13_method_45_code
def yX11_go : MethodName := ⟨RX11, "go", "(I)V"⟩
abbrev cX11_days : ByteArray := prog_13_method_46_code
def yX11_days : MethodName := ⟨RX11, "days", "(I)I"⟩
abbrev cX11_cell : ByteArray := prog_13_method_47_code
def yX11_cell : MethodName := ⟨RX11, "cell", "(III)I"⟩
abbrev cX11_fill : ByteArray := prog_13_method_48_code
def yX11_fill : MethodName := ⟨RX11, "fill", "(II)Z"⟩
abbrev cX11_gain : ByteArray := prog_13_method_49_code
def yX11_gain : MethodName := ⟨RX11, "gain", "(II)I"⟩
abbrev cX11_length : ByteArray := prog_13_method_50_code
def yX11_length : MethodName := ⟨RX11, "length", "(II)I"⟩
abbrev cX11_act : ByteArray := prog_13_method_51_code
def yX11_act : MethodName := ⟨RX11, "act", "(III)I"⟩
abbrev cX11_isHand : ByteArray := prog_13_method_52_code
def yX11_isHand : MethodName := ⟨RX11, "isHand", "(I)Z"⟩
abbrev cX11_isBill : ByteArray := prog_13_method_53_code
def yX11_isBill : MethodName := ⟨RX11, "isBill", "(I)Z"⟩
abbrev cX11_bill : ByteArray := prog_13_method_54_code
def yX11_bill : MethodName := ⟨RX11, "bill", "(III)I"⟩
abbrev cX11_pass : ByteArray := prog_13_method_55_code
def yX11_pass : MethodName := ⟨RX11, "pass", "(IIII)I"⟩
abbrev cX11_untell : ByteArray := prog_13_method_56_code
def yX11_untell : MethodName := ⟨RX11, "untell", "(I)Z"⟩
abbrev cX11_holder : ByteArray := prog_13_method_57_code
def yX11_holder : MethodName := ⟨RX11, "holder", "(III)I"⟩
abbrev cX11_pay : ByteArray := prog_13_method_58_code
def yX11_pay : MethodName := ⟨RX11, "pay", "(I)I"⟩
abbrev cX11_paid : ByteArray := prog_13_method_59_code
def yX11_paid : MethodName := ⟨RX11, "paid", "(II)I"⟩
abbrev cX11_about : ByteArray := prog_13_method_60_code
def yX11_about : MethodName := ⟨RX11, "about", "(I)I"⟩
def RJ11 : String := "java/lang/Character"
def TJ11 : u_T := fun k => match k with
  | _ => ("", "", "", false)
def tyJ11 : Nat → FieldType := fun k => match k with
  | _ => .int
theorem nmJ11 : ∀ a, a < 0 → ∀ b, b < 0 → a ≠ b → (TJ11 a).2.1 ≠ (TJ11 b).2.1 := by decide +kernel
theorem tyJ11_ok : ∀ k, k < 0 → parseFieldDescriptor (TJ11 k).2.2.1 = some (tyJ11 k) := by decide +kernel
abbrev cJ11_isValidCodePoint_9a6ad : ByteArray := prog_14_method_11_code
def yJ11_isValidCodePoint_9a6ad : MethodName := ⟨RJ11, "isValidCodePoint", "(I)Z"⟩
abbrev cJ11_highSurrogate_5068e : ByteArray := prog_14_method_28_code
def yJ11_highSurrogate_5068e : MethodName := ⟨RJ11, "highSurrogate", "(I)C"⟩
abbrev cJ11_lowSurrogate_5068e : ByteArray := prog_14_method_29_code
def yJ11_lowSurrogate_5068e : MethodName := ⟨RJ11, "lowSurrogate", "(I)C"⟩
def RJ9 : String := "java/lang/Math"
def TJ9 : u_T := fun k => match k with
  | _ => ("", "", "", false)
def tyJ9 : Nat → FieldType := fun k => match k with
  | _ => .int
theorem nmJ9 : ∀ a, a < 0 → ∀ b, b < 0 → a ≠ b → (TJ9 a).2.1 ≠ (TJ9 b).2.1 := by decide +kernel
theorem tyJ9_ok : ∀ k, k < 0 → parseFieldDescriptor (TJ9 k).2.2.1 = some (tyJ9 k) := by decide +kernel
abbrev cJ9_max_7cf53 : ByteArray := prog_15_method_65_code
def yJ9_max_7cf53 : MethodName := ⟨RJ9, "max", "(II)I"⟩
abbrev cJ9_min_7cf53 : ByteArray := prog_15_method_69_code
def yJ9_min_7cf53 : MethodName := ⟨RJ9, "min", "(II)I"⟩
def RJ0 : String := "java/lang/String"
def TJ0 : u_T := fun k => match k with
  | _ => ("", "", "", false)
def tyJ0 : Nat → FieldType := fun k => match k with
  | _ => .int
theorem nmJ0 : ∀ a, a < 0 → ∀ b, b < 0 → a ≠ b → (TJ0 a).2.1 ≠ (TJ0 b).2.1 := by decide +kernel
theorem tyJ0_ok : ∀ k, k < 0 → parseFieldDescriptor (TJ0 k).2.2.1 = some (tyJ0 k) := by decide +kernel
abbrev cJ0_length_8abf5 : ByteArray := prog_16_method_54_code
def yJ0_length_8abf5 : MethodName := ⟨RJ0, "length", "()I"⟩
abbrev cJ0_charAt_5068e : ByteArray := prog_16_method_56_code
def yJ0_charAt_5068e : MethodName := ⟨RJ0, "charAt", "(I)C"⟩
abbrev cJ0_indexOf_0f7a4 : ByteArray := prog_16_method_79_code
def yJ0_indexOf_0f7a4 : MethodName := ⟨RJ0, "indexOf", "(I)I"⟩
abbrev cJ0_indexOf_7cf53 : ByteArray := prog_16_method_80_code
def yJ0_indexOf_7cf53 : MethodName := ⟨RJ0, "indexOf", "(II)I"⟩
abbrev cJ0_coder_7d493 : ByteArray := prog_16_method_152_code
def yJ0_coder_7d493 : MethodName := ⟨RJ0, "coder", "()B"⟩
abbrev cJ0_isLatin1_aae02 : ByteArray := prog_16_method_154_code
def yJ0_isLatin1_aae02 : MethodName := ⟨RJ0, "isLatin1", "()Z"⟩
abbrev cJ0_checkIndex_df160 : ByteArray := prog_16_method_155_code
def yJ0_checkIndex_df160 : MethodName := ⟨RJ0, "checkIndex", "(II)V"⟩
abbrev cJ0_checkBoundsBeginEnd_23922 : ByteArray := prog_16_method_158_code
def yJ0_checkBoundsBeginEnd_23922 : MethodName := ⟨RJ0, "checkBoundsBeginEnd", "(III)V"⟩
def RJ1 : String := "java/lang/StringLatin1"
def TJ1 : u_T := fun k => match k with
  | _ => ("", "", "", false)
def tyJ1 : Nat → FieldType := fun k => match k with
  | _ => .int
theorem nmJ1 : ∀ a, a < 0 → ∀ b, b < 0 → a ≠ b → (TJ1 a).2.1 ≠ (TJ1 b).2.1 := by decide +kernel
theorem tyJ1_ok : ∀ k, k < 0 → parseFieldDescriptor (TJ1 k).2.2.1 = some (tyJ1 k) := by decide +kernel
abbrev cJ1_charAt_3b067 : ByteArray := prog_17_method_2_code
def yJ1_charAt_3b067 : MethodName := ⟨RJ1, "charAt", "([BI)C"⟩
abbrev cJ1_canEncode_9a6ad : ByteArray := prog_17_method_4_code
def yJ1_canEncode_9a6ad : MethodName := ⟨RJ1, "canEncode", "(I)Z"⟩
abbrev cJ1_indexOf_4cfef : ByteArray := prog_17_method_22_code
def yJ1_indexOf_4cfef : MethodName := ⟨RJ1, "indexOf", "([BIII)I"⟩
abbrev cJ1_indexOfChar_4cfef : ByteArray := prog_17_method_23_code
def yJ1_indexOfChar_4cfef : MethodName := ⟨RJ1, "indexOfChar", "([BIII)I"⟩
def RJ2 : String := "java/lang/StringUTF16"
def TJ2 : u_T := fun k => match k with
  | _ => ("", "", "", false)
def tyJ2 : Nat → FieldType := fun k => match k with
  | _ => .int
theorem nmJ2 : ∀ a, a < 0 → ∀ b, b < 0 → a ≠ b → (TJ2 a).2.1 ≠ (TJ2 b).2.1 := by decide +kernel
theorem tyJ2_ok : ∀ k, k < 0 → parseFieldDescriptor (TJ2 k).2.2.1 = some (tyJ2 k) := by decide +kernel
abbrev cJ2_getChar_3b067 : ByteArray := prog_18_method_5_code
def yJ2_getChar_3b067 : MethodName := ⟨RJ2, "getChar", "([BI)C"⟩
abbrev cJ2_length_9d52b : ByteArray := prog_18_method_6_code
def yJ2_length_9d52b : MethodName := ⟨RJ2, "length", "([B)I"⟩
abbrev cJ2_indexOf_4cfef : ByteArray := prog_18_method_40_code
def yJ2_indexOf_4cfef : MethodName := ⟨RJ2, "indexOf", "([BIII)I"⟩
abbrev cJ2_indexOfChar_4cfef : ByteArray := prog_18_method_47_code
def yJ2_indexOfChar_4cfef : MethodName := ⟨RJ2, "indexOfChar", "([BIII)I"⟩
abbrev cJ2_indexOfCharUnsafe_4cfef : ByteArray := prog_18_method_48_code
def yJ2_indexOfCharUnsafe_4cfef : MethodName := ⟨RJ2, "indexOfCharUnsafe", "([BIII)I"⟩
abbrev cJ2_indexOfSupplementary_4cfef : ByteArray := prog_18_method_49_code
def yJ2_indexOfSupplementary_4cfef : MethodName := ⟨RJ2, "indexOfSupplementary", "([BIII)I"⟩
abbrev cJ2_charAt_3b067 : ByteArray := prog_18_method_83_code
def yJ2_charAt_3b067 : MethodName := ⟨RJ2, "charAt", "([BI)C"⟩
abbrev cJ2_checkIndex_2214a : ByteArray := prog_18_method_91_code
def yJ2_checkIndex_2214a : MethodName := ⟨RJ2, "checkIndex", "(I[B)V"⟩
abbrev cJ2_checkBoundsBeginEnd_d044e : ByteArray := prog_18_method_93_code
def yJ2_checkBoundsBeginEnd_d044e : MethodName := ⟨RJ2, "checkBoundsBeginEnd", "(II[B)V"⟩
def RJ3 : String := "jdk/internal/util/Preconditions"
def TJ3 : u_T := fun k => match k with
  | _ => ("", "", "", false)
def tyJ3 : Nat → FieldType := fun k => match k with
  | _ => .int
theorem nmJ3 : ∀ a, a < 0 → ∀ b, b < 0 → a ≠ b → (TJ3 a).2.1 ≠ (TJ3 b).2.1 := by decide +kernel
theorem tyJ3_ok : ∀ k, k < 0 → parseFieldDescriptor (TJ3 k).2.2.1 = some (tyJ3 k) := by decide +kernel
abbrev cJ3_checkIndex_8e157 : ByteArray := prog_19_method_11_code
def yJ3_checkIndex_8e157 : MethodName := ⟨RJ3, "checkIndex", "(IILjava/util/function/BiFunction;)I"⟩
abbrev cJ3_checkFromToIndex_8c36e : ByteArray := prog_19_method_12_code
def yJ3_checkFromToIndex_8c36e : MethodName := ⟨RJ3, "checkFromToIndex", "(IIILjava/util/function/BiFunction;)I"⟩
def RL : String := "DroveRoadsLaw"
abbrev cL_law : ByteArray := code
def yL_law : MethodName := ⟨RL, "law", "([I)Z"⟩
end
section
theorem dX0_init_0 : decode cX0_init 0 = .ok (.aload_n 0, 1) := by decide +kernel
theorem dX0_init_1 : decode cX0_init 1 = .ok (.invokespecial 3, 3) := by decide +kernel
theorem dX0_init_4 : decode cX0_init 4 = .ok (.aload_n 0, 1) := by decide +kernel
theorem dX0_init_5 : decode cX0_init 5 = .ok (.iconst 0, 1) := by decide +kernel
theorem dX0_init_6 : decode cX0_init 6 = .ok (.putfield 9, 3) := by decide +kernel
theorem dX0_init_9 : decode cX0_init 9 = .ok (.aload_n 0, 1) := by decide +kernel
theorem dX0_init_10 : decode cX0_init 10 = .ok (.new 15, 3) := by decide +kernel
theorem dX0_init_13 : decode cX0_init 13 = .ok (.dup, 1) := by decide +kernel
theorem dX0_init_14 : decode cX0_init 14 = .ok (.invokespecial 17, 3) := by decide +kernel
theorem dX0_init_17 : decode cX0_init 17 = .ok (.putfield 18, 3) := by decide +kernel
theorem dX0_init_20 : decode cX0_init 20 = .ok (.aload_n 0, 1) := by decide +kernel
theorem dX0_init_21 : decode cX0_init 21 = .ok (.bipush 20, 2) := by decide +kernel
theorem dX0_init_23 : decode cX0_init 23 = .ok (.newarray .int, 2) := by decide +kernel
theorem dX0_init_25 : decode cX0_init 25 = .ok (.putfield 22, 3) := by decide +kernel
theorem dX0_init_28 : decode cX0_init 28 = .ok (.aload_n 0, 1) := by decide +kernel
theorem dX0_init_29 : decode cX0_init 29 = .ok (.bipush 20, 2) := by decide +kernel
theorem dX0_init_31 : decode cX0_init 31 = .ok (.newarray .int, 2) := by decide +kernel
theorem dX0_init_33 : decode cX0_init 33 = .ok (.putfield 26, 3) := by decide +kernel
theorem dX0_init_36 : decode cX0_init 36 = .ok (.aload_n 0, 1) := by decide +kernel
theorem dX0_init_37 : decode cX0_init 37 = .ok (.bipush 20, 2) := by decide +kernel
theorem dX0_init_39 : decode cX0_init 39 = .ok (.newarray .int, 2) := by decide +kernel
theorem dX0_init_41 : decode cX0_init 41 = .ok (.putfield 29, 3) := by decide +kernel
theorem dX0_init_44 : decode cX0_init 44 = .ok (.aload_n 0, 1) := by decide +kernel
theorem dX0_init_45 : decode cX0_init 45 = .ok (.bipush 20, 2) := by decide +kernel
theorem dX0_init_47 : decode cX0_init 47 = .ok (.newarray .int, 2) := by decide +kernel
theorem dX0_init_49 : decode cX0_init 49 = .ok (.putfield 32, 3) := by decide +kernel
theorem dX0_init_52 : decode cX0_init 52 = .ok (.aload_n 0, 1) := by decide +kernel
theorem dX0_init_53 : decode cX0_init 53 = .ok (.bipush 20, 2) := by decide +kernel
theorem dX0_init_55 : decode cX0_init 55 = .ok (.newarray .int, 2) := by decide +kernel
theorem dX0_init_57 : decode cX0_init 57 = .ok (.putfield 35, 3) := by decide +kernel
theorem dX0_init_60 : decode cX0_init 60 = .ok (.return_, 1) := by decide +kernel
theorem dX0_has_0 : decode cX0_has 0 = .ok (.iload_n 1, 1) := by decide +kernel
theorem dX0_has_1 : decode cX0_has 1 = .ok (.ifCond .lt 15, 3) := by decide +kernel
theorem dX0_has_4 : decode cX0_has 4 = .ok (.iload_n 1, 1) := by decide +kernel
theorem dX0_has_5 : decode cX0_has 5 = .ok (.aload_n 0, 1) := by decide +kernel
theorem dX0_has_6 : decode cX0_has 6 = .ok (.getfield 9, 3) := by decide +kernel
theorem dX0_has_9 : decode cX0_has 9 = .ok (.if_icmp .ge 7, 3) := by decide +kernel
theorem dX0_has_12 : decode cX0_has 12 = .ok (.iconst 1, 1) := by decide +kernel
theorem dX0_has_13 : decode cX0_has 13 = .ok (.goto 4, 3) := by decide +kernel
theorem dX0_has_16 : decode cX0_has 16 = .ok (.iconst 0, 1) := by decide +kernel
theorem dX0_has_17 : decode cX0_has 17 = .ok (.ireturn, 1) := by decide +kernel
theorem dX0_make_0 : decode cX0_make 0 = .ok (.iload_n 1, 1) := by decide +kernel
theorem dX0_make_1 : decode cX0_make 1 = .ok (.iconst 1, 1) := by decide +kernel
theorem dX0_make_2 : decode cX0_make 2 = .ok (.ldc 38, 2) := by decide +kernel
theorem dX0_make_4 : decode cX0_make 4 = .ok (.invokestatic 39, 3) := by decide +kernel
theorem dX0_make_7 : decode cX0_make 7 = .ok (.ifCond .eq 24, 3) := by decide +kernel
theorem dX0_make_10 : decode cX0_make 10 = .ok (.iload_n 2, 1) := by decide +kernel
theorem dX0_make_11 : decode cX0_make 11 = .ok (.invokestatic 43, 3) := by decide +kernel
theorem dX0_make_14 : decode cX0_make 14 = .ok (.ifCond .eq 17, 3) := by decide +kernel
theorem dX0_make_17 : decode cX0_make 17 = .ok (.iload_n 3, 1) := by decide +kernel
theorem dX0_make_18 : decode cX0_make 18 = .ok (.iconst 0, 1) := by decide +kernel
theorem dX0_make_19 : decode cX0_make 19 = .ok (.ldc 47, 2) := by decide +kernel
theorem dX0_make_21 : decode cX0_make 21 = .ok (.invokestatic 39, 3) := by decide +kernel
theorem dX0_make_24 : decode cX0_make 24 = .ok (.ifCond .eq 7, 3) := by decide +kernel
theorem dX0_make_27 : decode cX0_make 27 = .ok (.iconst 1, 1) := by decide +kernel
theorem dX0_make_28 : decode cX0_make 28 = .ok (.goto 4, 3) := by decide +kernel
theorem dX0_make_31 : decode cX0_make 31 = .ok (.iconst 0, 1) := by decide +kernel
theorem dX0_make_32 : decode cX0_make 32 = .ok (.istore 4, 2) := by decide +kernel
theorem dX0_make_34 : decode cX0_make 34 = .ok (.iload 4, 2) := by decide +kernel
theorem dX0_make_36 : decode cX0_make 36 = .ok (.ifCond .eq 12, 3) := by decide +kernel
theorem dX0_make_39 : decode cX0_make 39 = .ok (.aload_n 0, 1) := by decide +kernel
theorem dX0_make_40 : decode cX0_make 40 = .ok (.getfield 9, 3) := by decide +kernel
theorem dX0_make_43 : decode cX0_make 43 = .ok (.bipush 20, 2) := by decide +kernel
theorem dX0_make_45 : decode cX0_make 45 = .ok (.if_icmp .lt 5, 3) := by decide +kernel
theorem dX0_make_48 : decode cX0_make 48 = .ok (.iconst (-1), 1) := by decide +kernel
theorem dX0_make_49 : decode cX0_make 49 = .ok (.ireturn, 1) := by decide +kernel
theorem dX0_make_50 : decode cX0_make 50 = .ok (.aload_n 0, 1) := by decide +kernel
theorem dX0_make_51 : decode cX0_make 51 = .ok (.getfield 22, 3) := by decide +kernel
theorem dX0_make_54 : decode cX0_make 54 = .ok (.aload_n 0, 1) := by decide +kernel
theorem dX0_make_55 : decode cX0_make 55 = .ok (.getfield 9, 3) := by decide +kernel
theorem dX0_make_58 : decode cX0_make 58 = .ok (.iload_n 1, 1) := by decide +kernel
theorem dX0_make_59 : decode cX0_make 59 = .ok (.iastore, 1) := by decide +kernel
theorem dX0_make_60 : decode cX0_make 60 = .ok (.aload_n 0, 1) := by decide +kernel
theorem dX0_make_61 : decode cX0_make 61 = .ok (.getfield 26, 3) := by decide +kernel
theorem dX0_make_64 : decode cX0_make 64 = .ok (.aload_n 0, 1) := by decide +kernel
theorem dX0_make_65 : decode cX0_make 65 = .ok (.getfield 9, 3) := by decide +kernel
theorem dX0_make_68 : decode cX0_make 68 = .ok (.iload_n 2, 1) := by decide +kernel
theorem dX0_make_69 : decode cX0_make 69 = .ok (.iastore, 1) := by decide +kernel
theorem dX0_make_70 : decode cX0_make 70 = .ok (.aload_n 0, 1) := by decide +kernel
theorem dX0_make_71 : decode cX0_make 71 = .ok (.getfield 29, 3) := by decide +kernel
theorem dX0_make_74 : decode cX0_make 74 = .ok (.aload_n 0, 1) := by decide +kernel
theorem dX0_make_75 : decode cX0_make 75 = .ok (.getfield 9, 3) := by decide +kernel
theorem dX0_make_78 : decode cX0_make 78 = .ok (.iload_n 3, 1) := by decide +kernel
theorem dX0_make_79 : decode cX0_make 79 = .ok (.iastore, 1) := by decide +kernel
theorem dX0_make_80 : decode cX0_make 80 = .ok (.aload_n 0, 1) := by decide +kernel
theorem dX0_make_81 : decode cX0_make 81 = .ok (.getfield 32, 3) := by decide +kernel
theorem dX0_make_84 : decode cX0_make 84 = .ok (.aload_n 0, 1) := by decide +kernel
theorem dX0_make_85 : decode cX0_make 85 = .ok (.getfield 9, 3) := by decide +kernel
theorem dX0_make_88 : decode cX0_make 88 = .ok (.iconst (-1), 1) := by decide +kernel
theorem dX0_make_89 : decode cX0_make 89 = .ok (.iastore, 1) := by decide +kernel
theorem dX0_make_90 : decode cX0_make 90 = .ok (.aload_n 0, 1) := by decide +kernel
theorem dX0_make_91 : decode cX0_make 91 = .ok (.getfield 35, 3) := by decide +kernel
theorem dX0_make_94 : decode cX0_make 94 = .ok (.aload_n 0, 1) := by decide +kernel
theorem dX0_make_95 : decode cX0_make 95 = .ok (.getfield 9, 3) := by decide +kernel
theorem dX0_make_98 : decode cX0_make 98 = .ok (.iconst (-1), 1) := by decide +kernel
theorem dX0_make_99 : decode cX0_make 99 = .ok (.iastore, 1) := by decide +kernel
theorem dX0_make_100 : decode cX0_make 100 = .ok (.aload_n 0, 1) := by decide +kernel
theorem dX0_make_101 : decode cX0_make 101 = .ok (.dup, 1) := by decide +kernel
theorem dX0_make_102 : decode cX0_make 102 = .ok (.getfield 9, 3) := by decide +kernel
theorem dX0_make_105 : decode cX0_make 105 = .ok (.iconst 1, 1) := by decide +kernel
theorem dX0_make_106 : decode cX0_make 106 = .ok (.iadd, 1) := by decide +kernel
theorem dX0_make_107 : decode cX0_make 107 = .ok (.putfield 9, 3) := by decide +kernel
theorem dX0_make_110 : decode cX0_make 110 = .ok (.aload_n 0, 1) := by decide +kernel
theorem dX0_make_111 : decode cX0_make 111 = .ok (.getfield 9, 3) := by decide +kernel
theorem dX0_make_114 : decode cX0_make 114 = .ok (.iconst 1, 1) := by decide +kernel
theorem dX0_make_115 : decode cX0_make 115 = .ok (.isub, 1) := by decide +kernel
theorem dX0_make_116 : decode cX0_make 116 = .ok (.ireturn, 1) := by decide +kernel
theorem dX0_holderKnown_0 : decode cX0_holderKnown 0 = .ok (.aload_n 0, 1) := by decide +kernel
theorem dX0_holderKnown_1 : decode cX0_holderKnown 1 = .ok (.iload_n 1, 1) := by decide +kernel
theorem dX0_holderKnown_2 : decode cX0_holderKnown 2 = .ok (.invokevirtual 48, 3) := by decide +kernel
theorem dX0_holderKnown_5 : decode cX0_holderKnown 5 = .ok (.ifCond .eq 22, 3) := by decide +kernel
theorem dX0_holderKnown_8 : decode cX0_holderKnown 8 = .ok (.aload_n 0, 1) := by decide +kernel
theorem dX0_holderKnown_9 : decode cX0_holderKnown 9 = .ok (.getfield 18, 3) := by decide +kernel
theorem dX0_holderKnown_12 : decode cX0_holderKnown 12 = .ok (.iload_n 1, 1) := by decide +kernel
theorem dX0_holderKnown_13 : decode cX0_holderKnown 13 = .ok (.aload_n 0, 1) := by decide +kernel
theorem dX0_holderKnown_14 : decode cX0_holderKnown 14 = .ok (.getfield 26, 3) := by decide +kernel
theorem dX0_holderKnown_17 : decode cX0_holderKnown 17 = .ok (.iload_n 1, 1) := by decide +kernel
theorem dX0_holderKnown_18 : decode cX0_holderKnown 18 = .ok (.iaload, 1) := by decide +kernel
theorem dX0_holderKnown_19 : decode cX0_holderKnown 19 = .ok (.iload_n 2, 1) := by decide +kernel
theorem dX0_holderKnown_20 : decode cX0_holderKnown 20 = .ok (.iload_n 3, 1) := by decide +kernel
theorem dX0_holderKnown_21 : decode cX0_holderKnown 21 = .ok (.invokevirtual 51, 3) := by decide +kernel
theorem dX0_holderKnown_24 : decode cX0_holderKnown 24 = .ok (.goto 4, 3) := by decide +kernel
theorem dX0_holderKnown_27 : decode cX0_holderKnown 27 = .ok (.iconst (-1), 1) := by decide +kernel
theorem dX0_holderKnown_28 : decode cX0_holderKnown 28 = .ok (.ireturn, 1) := by decide +kernel
theorem dX0_settle_0 : decode cX0_settle 0 = .ok (.aload_n 0, 1) := by decide +kernel
theorem dX0_settle_1 : decode cX0_settle 1 = .ok (.iload_n 1, 1) := by decide +kernel
theorem dX0_settle_2 : decode cX0_settle 2 = .ok (.invokevirtual 48, 3) := by decide +kernel
theorem dX0_settle_5 : decode cX0_settle 5 = .ok (.ifCond .eq 23, 3) := by decide +kernel
theorem dX0_settle_8 : decode cX0_settle 8 = .ok (.aload_n 0, 1) := by decide +kernel
theorem dX0_settle_9 : decode cX0_settle 9 = .ok (.getfield 29, 3) := by decide +kernel
theorem dX0_settle_12 : decode cX0_settle 12 = .ok (.iload_n 1, 1) := by decide +kernel
theorem dX0_settle_13 : decode cX0_settle 13 = .ok (.iaload, 1) := by decide +kernel
theorem dX0_settle_14 : decode cX0_settle 14 = .ok (.iload_n 2, 1) := by decide +kernel
theorem dX0_settle_15 : decode cX0_settle 15 = .ok (.if_icmp .gt 13, 3) := by decide +kernel
theorem dX0_settle_18 : decode cX0_settle 18 = .ok (.aload_n 0, 1) := by decide +kernel
theorem dX0_settle_19 : decode cX0_settle 19 = .ok (.getfield 32, 3) := by decide +kernel
theorem dX0_settle_22 : decode cX0_settle 22 = .ok (.iload_n 1, 1) := by decide +kernel
theorem dX0_settle_23 : decode cX0_settle 23 = .ok (.iaload, 1) := by decide +kernel
theorem dX0_settle_24 : decode cX0_settle 24 = .ok (.iconst (-1), 1) := by decide +kernel
theorem dX0_settle_25 : decode cX0_settle 25 = .ok (.if_icmp .eq 5, 3) := by decide +kernel
theorem dX0_settle_28 : decode cX0_settle 28 = .ok (.iconst (-1), 1) := by decide +kernel
theorem dX0_settle_29 : decode cX0_settle 29 = .ok (.ireturn, 1) := by decide +kernel
theorem dX0_settle_30 : decode cX0_settle 30 = .ok (.aload_n 0, 1) := by decide +kernel
theorem dX0_settle_31 : decode cX0_settle 31 = .ok (.getfield 32, 3) := by decide +kernel
theorem dX0_settle_34 : decode cX0_settle 34 = .ok (.iload_n 1, 1) := by decide +kernel
theorem dX0_settle_35 : decode cX0_settle 35 = .ok (.iload_n 2, 1) := by decide +kernel
theorem dX0_settle_36 : decode cX0_settle 36 = .ok (.iastore, 1) := by decide +kernel
theorem dX0_settle_37 : decode cX0_settle 37 = .ok (.aload_n 0, 1) := by decide +kernel
theorem dX0_settle_38 : decode cX0_settle 38 = .ok (.getfield 35, 3) := by decide +kernel
theorem dX0_settle_41 : decode cX0_settle 41 = .ok (.iload_n 1, 1) := by decide +kernel
theorem dX0_settle_42 : decode cX0_settle 42 = .ok (.aload_n 0, 1) := by decide +kernel
theorem dX0_settle_43 : decode cX0_settle 43 = .ok (.iload_n 1, 1) := by decide +kernel
theorem dX0_settle_44 : decode cX0_settle 44 = .ok (.iload_n 2, 1) := by decide +kernel
theorem dX0_settle_45 : decode cX0_settle 45 = .ok (.iload_n 2, 1) := by decide +kernel
theorem dX0_settle_46 : decode cX0_settle 46 = .ok (.invokevirtual 55, 3) := by decide +kernel
theorem dX0_settle_49 : decode cX0_settle 49 = .ok (.iastore, 1) := by decide +kernel
theorem dX0_settle_50 : decode cX0_settle 50 = .ok (.aload_n 0, 1) := by decide +kernel
theorem dX0_settle_51 : decode cX0_settle 51 = .ok (.getfield 35, 3) := by decide +kernel
theorem dX0_settle_54 : decode cX0_settle 54 = .ok (.iload_n 1, 1) := by decide +kernel
theorem dX0_settle_55 : decode cX0_settle 55 = .ok (.iaload, 1) := by decide +kernel
theorem dX0_settle_56 : decode cX0_settle 56 = .ok (.ireturn, 1) := by decide +kernel
theorem dX0_tell_0 : decode cX0_tell 0 = .ok (.aload_n 0, 1) := by decide +kernel
theorem dX0_tell_1 : decode cX0_tell 1 = .ok (.iload_n 1, 1) := by decide +kernel
theorem dX0_tell_2 : decode cX0_tell 2 = .ok (.invokevirtual 48, 3) := by decide +kernel
theorem dX0_tell_5 : decode cX0_tell 5 = .ok (.ifCond .ne 5, 3) := by decide +kernel
theorem dX0_tell_8 : decode cX0_tell 8 = .ok (.iconst (-1), 1) := by decide +kernel
theorem dX0_tell_9 : decode cX0_tell 9 = .ok (.ireturn, 1) := by decide +kernel
theorem dX0_tell_10 : decode cX0_tell 10 = .ok (.iload_n 2, 1) := by decide +kernel
theorem dX0_tell_11 : decode cX0_tell 11 = .ok (.tableswitch 46 0 2 #[25, 32, 39], 25) := by decide +kernel
theorem dX0_tell_36 : decode cX0_tell 36 = .ok (.aload_n 0, 1) := by decide +kernel
theorem dX0_tell_37 : decode cX0_tell 37 = .ok (.getfield 22, 3) := by decide +kernel
theorem dX0_tell_40 : decode cX0_tell 40 = .ok (.iload_n 1, 1) := by decide +kernel
theorem dX0_tell_41 : decode cX0_tell 41 = .ok (.iaload, 1) := by decide +kernel
theorem dX0_tell_42 : decode cX0_tell 42 = .ok (.ireturn, 1) := by decide +kernel
theorem dX0_tell_43 : decode cX0_tell 43 = .ok (.aload_n 0, 1) := by decide +kernel
theorem dX0_tell_44 : decode cX0_tell 44 = .ok (.getfield 32, 3) := by decide +kernel
theorem dX0_tell_47 : decode cX0_tell 47 = .ok (.iload_n 1, 1) := by decide +kernel
theorem dX0_tell_48 : decode cX0_tell 48 = .ok (.iaload, 1) := by decide +kernel
theorem dX0_tell_49 : decode cX0_tell 49 = .ok (.ireturn, 1) := by decide +kernel
theorem dX0_tell_50 : decode cX0_tell 50 = .ok (.aload_n 0, 1) := by decide +kernel
theorem dX0_tell_51 : decode cX0_tell 51 = .ok (.getfield 35, 3) := by decide +kernel
theorem dX0_tell_54 : decode cX0_tell 54 = .ok (.iload_n 1, 1) := by decide +kernel
theorem dX0_tell_55 : decode cX0_tell 55 = .ok (.iaload, 1) := by decide +kernel
theorem dX0_tell_56 : decode cX0_tell 56 = .ok (.ireturn, 1) := by decide +kernel
theorem dX0_tell_57 : decode cX0_tell 57 = .ok (.iconst (-1), 1) := by decide +kernel
theorem dX0_tell_58 : decode cX0_tell 58 = .ok (.ireturn, 1) := by decide +kernel
theorem dX1_init_0 : decode cX1_init 0 = .ok (.aload_n 0, 1) := by decide +kernel
theorem dX1_init_1 : decode cX1_init 1 = .ok (.invokespecial 3, 3) := by decide +kernel
theorem dX1_init_4 : decode cX1_init 4 = .ok (.aload_n 0, 1) := by decide +kernel
theorem dX1_init_5 : decode cX1_init 5 = .ok (.iconst 0, 1) := by decide +kernel
theorem dX1_init_6 : decode cX1_init 6 = .ok (.putfield 9, 3) := by decide +kernel
theorem dX1_init_9 : decode cX1_init 9 = .ok (.aload_n 0, 1) := by decide +kernel
theorem dX1_init_10 : decode cX1_init 10 = .ok (.iconst 0, 1) := by decide +kernel
theorem dX1_init_11 : decode cX1_init 11 = .ok (.putfield 15, 3) := by decide +kernel
theorem dX1_init_14 : decode cX1_init 14 = .ok (.aload_n 0, 1) := by decide +kernel
theorem dX1_init_15 : decode cX1_init 15 = .ok (.new 18, 3) := by decide +kernel
theorem dX1_init_18 : decode cX1_init 18 = .ok (.dup, 1) := by decide +kernel
theorem dX1_init_19 : decode cX1_init 19 = .ok (.invokespecial 20, 3) := by decide +kernel
theorem dX1_init_22 : decode cX1_init 22 = .ok (.putfield 21, 3) := by decide +kernel
theorem dX1_init_25 : decode cX1_init 25 = .ok (.aload_n 0, 1) := by decide +kernel
theorem dX1_init_26 : decode cX1_init 26 = .ok (.iconst 0, 1) := by decide +kernel
theorem dX1_init_27 : decode cX1_init 27 = .ok (.putfield 25, 3) := by decide +kernel
theorem dX1_init_30 : decode cX1_init 30 = .ok (.aload_n 0, 1) := by decide +kernel
theorem dX1_init_31 : decode cX1_init 31 = .ok (.iconst 0, 1) := by decide +kernel
theorem dX1_init_32 : decode cX1_init 32 = .ok (.putfield 28, 3) := by decide +kernel
theorem dX1_init_35 : decode cX1_init 35 = .ok (.aload_n 0, 1) := by decide +kernel
theorem dX1_init_36 : decode cX1_init 36 = .ok (.iconst 0, 1) := by decide +kernel
theorem dX1_init_37 : decode cX1_init 37 = .ok (.putfield 31, 3) := by decide +kernel
theorem dX1_init_40 : decode cX1_init 40 = .ok (.aload_n 0, 1) := by decide +kernel
theorem dX1_init_41 : decode cX1_init 41 = .ok (.iconst 0, 1) := by decide +kernel
theorem dX1_init_42 : decode cX1_init 42 = .ok (.putfield 34, 3) := by decide +kernel
theorem dX1_init_45 : decode cX1_init 45 = .ok (.aload_n 0, 1) := by decide +kernel
theorem dX1_init_46 : decode cX1_init 46 = .ok (.iconst 0, 1) := by decide +kernel
theorem dX1_init_47 : decode cX1_init 47 = .ok (.putfield 37, 3) := by decide +kernel
theorem dX1_init_50 : decode cX1_init 50 = .ok (.aload_n 0, 1) := by decide +kernel
theorem dX1_init_51 : decode cX1_init 51 = .ok (.iload_n 1, 1) := by decide +kernel
theorem dX1_init_52 : decode cX1_init 52 = .ok (.putfield 40, 3) := by decide +kernel
theorem dX1_init_55 : decode cX1_init 55 = .ok (.aload_n 0, 1) := by decide +kernel
theorem dX1_init_56 : decode cX1_init 56 = .ok (.iload_n 2, 1) := by decide +kernel
theorem dX1_init_57 : decode cX1_init 57 = .ok (.putfield 43, 3) := by decide +kernel
theorem dX1_init_60 : decode cX1_init 60 = .ok (.aload_n 0, 1) := by decide +kernel
theorem dX1_init_61 : decode cX1_init 61 = .ok (.iload_n 3, 1) := by decide +kernel
theorem dX1_init_62 : decode cX1_init 62 = .ok (.putfield 46, 3) := by decide +kernel
theorem dX1_init_65 : decode cX1_init 65 = .ok (.aload_n 0, 1) := by decide +kernel
theorem dX1_init_66 : decode cX1_init 66 = .ok (.iload 4, 2) := by decide +kernel
theorem dX1_init_68 : decode cX1_init 68 = .ok (.putfield 49, 3) := by decide +kernel
theorem dX1_init_71 : decode cX1_init 71 = .ok (.return_, 1) := by decide +kernel
theorem dX1_want_0 : decode cX1_want 0 = .ok (.aload_n 0, 1) := by decide +kernel
theorem dX1_want_1 : decode cX1_want 1 = .ok (.getfield 40, 3) := by decide +kernel
theorem dX1_want_4 : decode cX1_want 4 = .ok (.aload_n 0, 1) := by decide +kernel
theorem dX1_want_5 : decode cX1_want 5 = .ok (.getfield 46, 3) := by decide +kernel
theorem dX1_want_8 : decode cX1_want 8 = .ok (.imul, 1) := by decide +kernel
theorem dX1_want_9 : decode cX1_want 9 = .ok (.ireturn, 1) := by decide +kernel
theorem dX1_sellOnTheWay_0 : decode cX1_sellOnTheWay 0 = .ok (.aload_n 0, 1) := by decide +kernel
theorem dX1_sellOnTheWay_1 : decode cX1_sellOnTheWay 1 = .ok (.iload_n 1, 1) := by decide +kernel
theorem dX1_sellOnTheWay_2 : decode cX1_sellOnTheWay 2 = .ok (.invokevirtual 52, 3) := by decide +kernel
theorem dX1_sellOnTheWay_5 : decode cX1_sellOnTheWay 5 = .ok (.istore_n 3, 1) := by decide +kernel
theorem dX1_sellOnTheWay_6 : decode cX1_sellOnTheWay 6 = .ok (.aload_n 0, 1) := by decide +kernel
theorem dX1_sellOnTheWay_7 : decode cX1_sellOnTheWay 7 = .ok (.iload_n 3, 1) := by decide +kernel
theorem dX1_sellOnTheWay_8 : decode cX1_sellOnTheWay 8 = .ok (.aload_n 0, 1) := by decide +kernel
theorem dX1_sellOnTheWay_9 : decode cX1_sellOnTheWay 9 = .ok (.getfield 43, 3) := by decide +kernel
theorem dX1_sellOnTheWay_12 : decode cX1_sellOnTheWay 12 = .ok (.imul, 1) := by decide +kernel
theorem dX1_sellOnTheWay_13 : decode cX1_sellOnTheWay 13 = .ok (.iload_n 2, 1) := by decide +kernel
theorem dX1_sellOnTheWay_14 : decode cX1_sellOnTheWay 14 = .ok (.imul, 1) := by decide +kernel
theorem dX1_sellOnTheWay_15 : decode cX1_sellOnTheWay 15 = .ok (.sipush 200, 3) := by decide +kernel
theorem dX1_sellOnTheWay_18 : decode cX1_sellOnTheWay 18 = .ok (.idiv, 1) := by decide +kernel
theorem dX1_sellOnTheWay_19 : decode cX1_sellOnTheWay 19 = .ok (.invokevirtual 56, 3) := by decide +kernel
theorem dX1_sellOnTheWay_22 : decode cX1_sellOnTheWay 22 = .ok (.aload_n 0, 1) := by decide +kernel
theorem dX1_sellOnTheWay_23 : decode cX1_sellOnTheWay 23 = .ok (.getfield 40, 3) := by decide +kernel
theorem dX1_sellOnTheWay_26 : decode cX1_sellOnTheWay 26 = .ok (.ifCond .le 18, 3) := by decide +kernel
theorem dX1_sellOnTheWay_29 : decode cX1_sellOnTheWay 29 = .ok (.aload_n 0, 1) := by decide +kernel
theorem dX1_sellOnTheWay_30 : decode cX1_sellOnTheWay 30 = .ok (.iconst 0, 1) := by decide +kernel
theorem dX1_sellOnTheWay_31 : decode cX1_sellOnTheWay 31 = .ok (.aload_n 0, 1) := by decide +kernel
theorem dX1_sellOnTheWay_32 : decode cX1_sellOnTheWay 32 = .ok (.getfield 9, 3) := by decide +kernel
theorem dX1_sellOnTheWay_35 : decode cX1_sellOnTheWay 35 = .ok (.bipush 15, 2) := by decide +kernel
theorem dX1_sellOnTheWay_37 : decode cX1_sellOnTheWay 37 = .ok (.isub, 1) := by decide +kernel
theorem dX1_sellOnTheWay_38 : decode cX1_sellOnTheWay 38 = .ok (.invokestatic 60, 3) := by decide +kernel
theorem dX1_sellOnTheWay_41 : decode cX1_sellOnTheWay 41 = .ok (.putfield 9, 3) := by decide +kernel
theorem dX1_sellOnTheWay_44 : decode cX1_sellOnTheWay 44 = .ok (.return_, 1) := by decide +kernel
theorem dX1_sellAtFair_0 : decode cX1_sellAtFair 0 = .ok (.aload_n 0, 1) := by decide +kernel
theorem dX1_sellAtFair_1 : decode cX1_sellAtFair 1 = .ok (.aload_n 0, 1) := by decide +kernel
theorem dX1_sellAtFair_2 : decode cX1_sellAtFair 2 = .ok (.getfield 40, 3) := by decide +kernel
theorem dX1_sellAtFair_5 : decode cX1_sellAtFair 5 = .ok (.invokevirtual 52, 3) := by decide +kernel
theorem dX1_sellAtFair_8 : decode cX1_sellAtFair 8 = .ok (.istore_n 2, 1) := by decide +kernel
theorem dX1_sellAtFair_9 : decode cX1_sellAtFair 9 = .ok (.aload_n 0, 1) := by decide +kernel
theorem dX1_sellAtFair_10 : decode cX1_sellAtFair 10 = .ok (.iload_n 2, 1) := by decide +kernel
theorem dX1_sellAtFair_11 : decode cX1_sellAtFair 11 = .ok (.aload_n 0, 1) := by decide +kernel
theorem dX1_sellAtFair_12 : decode cX1_sellAtFair 12 = .ok (.getfield 43, 3) := by decide +kernel
theorem dX1_sellAtFair_15 : decode cX1_sellAtFair 15 = .ok (.imul, 1) := by decide +kernel
theorem dX1_sellAtFair_16 : decode cX1_sellAtFair 16 = .ok (.iload_n 1, 1) := by decide +kernel
theorem dX1_sellAtFair_17 : decode cX1_sellAtFair 17 = .ok (.imul, 1) := by decide +kernel
theorem dX1_sellAtFair_18 : decode cX1_sellAtFair 18 = .ok (.bipush 100, 2) := by decide +kernel
theorem dX1_sellAtFair_20 : decode cX1_sellAtFair 20 = .ok (.idiv, 1) := by decide +kernel
theorem dX1_sellAtFair_21 : decode cX1_sellAtFair 21 = .ok (.invokevirtual 56, 3) := by decide +kernel
theorem dX1_sellAtFair_24 : decode cX1_sellAtFair 24 = .ok (.return_, 1) := by decide +kernel
theorem dX1_sellHeads_0 : decode cX1_sellHeads 0 = .ok (.iload_n 1, 1) := by decide +kernel
theorem dX1_sellHeads_1 : decode cX1_sellHeads 1 = .ok (.aload_n 0, 1) := by decide +kernel
theorem dX1_sellHeads_2 : decode cX1_sellHeads 2 = .ok (.getfield 40, 3) := by decide +kernel
theorem dX1_sellHeads_5 : decode cX1_sellHeads 5 = .ok (.invokestatic 66, 3) := by decide +kernel
theorem dX1_sellHeads_8 : decode cX1_sellHeads 8 = .ok (.istore_n 2, 1) := by decide +kernel
theorem dX1_sellHeads_9 : decode cX1_sellHeads 9 = .ok (.aload_n 0, 1) := by decide +kernel
theorem dX1_sellHeads_10 : decode cX1_sellHeads 10 = .ok (.dup, 1) := by decide +kernel
theorem dX1_sellHeads_11 : decode cX1_sellHeads 11 = .ok (.getfield 40, 3) := by decide +kernel
theorem dX1_sellHeads_14 : decode cX1_sellHeads 14 = .ok (.iload_n 2, 1) := by decide +kernel
theorem dX1_sellHeads_15 : decode cX1_sellHeads 15 = .ok (.isub, 1) := by decide +kernel
theorem dX1_sellHeads_16 : decode cX1_sellHeads 16 = .ok (.putfield 40, 3) := by decide +kernel
theorem dX1_sellHeads_19 : decode cX1_sellHeads 19 = .ok (.aload_n 0, 1) := by decide +kernel
theorem dX1_sellHeads_20 : decode cX1_sellHeads 20 = .ok (.dup, 1) := by decide +kernel
theorem dX1_sellHeads_21 : decode cX1_sellHeads 21 = .ok (.getfield 31, 3) := by decide +kernel
theorem dX1_sellHeads_24 : decode cX1_sellHeads 24 = .ok (.iload_n 2, 1) := by decide +kernel
theorem dX1_sellHeads_25 : decode cX1_sellHeads 25 = .ok (.iadd, 1) := by decide +kernel
theorem dX1_sellHeads_26 : decode cX1_sellHeads 26 = .ok (.putfield 31, 3) := by decide +kernel
theorem dX1_sellHeads_29 : decode cX1_sellHeads 29 = .ok (.iload_n 2, 1) := by decide +kernel
theorem dX1_sellHeads_30 : decode cX1_sellHeads 30 = .ok (.ireturn, 1) := by decide +kernel
theorem dX1_earn_0 : decode cX1_earn 0 = .ok (.aload_n 0, 1) := by decide +kernel
theorem dX1_earn_1 : decode cX1_earn 1 = .ok (.ldc 69, 2) := by decide +kernel
theorem dX1_earn_3 : decode cX1_earn 3 = .ok (.aload_n 0, 1) := by decide +kernel
theorem dX1_earn_4 : decode cX1_earn 4 = .ok (.getfield 25, 3) := by decide +kernel
theorem dX1_earn_7 : decode cX1_earn 7 = .ok (.iload_n 1, 1) := by decide +kernel
theorem dX1_earn_8 : decode cX1_earn 8 = .ok (.iadd, 1) := by decide +kernel
theorem dX1_earn_9 : decode cX1_earn 9 = .ok (.invokestatic 66, 3) := by decide +kernel
theorem dX1_earn_12 : decode cX1_earn 12 = .ok (.putfield 25, 3) := by decide +kernel
theorem dX1_earn_15 : decode cX1_earn 15 = .ok (.return_, 1) := by decide +kernel
theorem dX1_walk_0 : decode cX1_walk 0 = .ok (.aload_n 0, 1) := by decide +kernel
theorem dX1_walk_1 : decode cX1_walk 1 = .ok (.dup, 1) := by decide +kernel
theorem dX1_walk_2 : decode cX1_walk 2 = .ok (.getfield 15, 3) := by decide +kernel
theorem dX1_walk_5 : decode cX1_walk 5 = .ok (.iconst 1, 1) := by decide +kernel
theorem dX1_walk_6 : decode cX1_walk 6 = .ok (.iadd, 1) := by decide +kernel
theorem dX1_walk_7 : decode cX1_walk 7 = .ok (.putfield 15, 3) := by decide +kernel
theorem dX1_walk_10 : decode cX1_walk 10 = .ok (.aload_n 0, 1) := by decide +kernel
theorem dX1_walk_11 : decode cX1_walk 11 = .ok (.dup, 1) := by decide +kernel
theorem dX1_walk_12 : decode cX1_walk 12 = .ok (.getfield 9, 3) := by decide +kernel
theorem dX1_walk_15 : decode cX1_walk 15 = .ok (.iload_n 1, 1) := by decide +kernel
theorem dX1_walk_16 : decode cX1_walk 16 = .ok (.iadd, 1) := by decide +kernel
theorem dX1_walk_17 : decode cX1_walk 17 = .ok (.putfield 9, 3) := by decide +kernel
theorem dX1_walk_20 : decode cX1_walk 20 = .ok (.aload_n 0, 1) := by decide +kernel
theorem dX1_walk_21 : decode cX1_walk 21 = .ok (.iconst 0, 1) := by decide +kernel
theorem dX1_walk_22 : decode cX1_walk 22 = .ok (.aload_n 0, 1) := by decide +kernel
theorem dX1_walk_23 : decode cX1_walk 23 = .ok (.getfield 43, 3) := by decide +kernel
theorem dX1_walk_26 : decode cX1_walk 26 = .ok (.iload_n 1, 1) := by decide +kernel
theorem dX1_walk_27 : decode cX1_walk 27 = .ok (.iconst 5, 1) := by decide +kernel
theorem dX1_walk_28 : decode cX1_walk 28 = .ok (.idiv, 1) := by decide +kernel
theorem dX1_walk_29 : decode cX1_walk 29 = .ok (.isub, 1) := by decide +kernel
theorem dX1_walk_30 : decode cX1_walk 30 = .ok (.invokestatic 60, 3) := by decide +kernel
theorem dX1_walk_33 : decode cX1_walk 33 = .ok (.putfield 43, 3) := by decide +kernel
theorem dX1_walk_36 : decode cX1_walk 36 = .ok (.aload_n 0, 1) := by decide +kernel
theorem dX1_walk_37 : decode cX1_walk 37 = .ok (.getfield 9, 3) := by decide +kernel
theorem dX1_walk_40 : decode cX1_walk 40 = .ok (.bipush 60, 2) := by decide +kernel
theorem dX1_walk_42 : decode cX1_walk 42 = .ok (.if_icmp .gt 5, 3) := by decide +kernel
theorem dX1_walk_45 : decode cX1_walk 45 = .ok (.iconst 0, 1) := by decide +kernel
theorem dX1_walk_46 : decode cX1_walk 46 = .ok (.ireturn, 1) := by decide +kernel
theorem dX1_walk_47 : decode cX1_walk 47 = .ok (.aload_n 0, 1) := by decide +kernel
theorem dX1_walk_48 : decode cX1_walk 48 = .ok (.getfield 40, 3) := by decide +kernel
theorem dX1_walk_51 : decode cX1_walk 51 = .ok (.aload_n 0, 1) := by decide +kernel
theorem dX1_walk_52 : decode cX1_walk 52 = .ok (.getfield 40, 3) := by decide +kernel
theorem dX1_walk_55 : decode cX1_walk 55 = .ok (.bipush 20, 2) := by decide +kernel
theorem dX1_walk_57 : decode cX1_walk 57 = .ok (.idiv, 1) := by decide +kernel
theorem dX1_walk_58 : decode cX1_walk 58 = .ok (.iconst 1, 1) := by decide +kernel
theorem dX1_walk_59 : decode cX1_walk 59 = .ok (.iadd, 1) := by decide +kernel
theorem dX1_walk_60 : decode cX1_walk 60 = .ok (.invokestatic 66, 3) := by decide +kernel
theorem dX1_walk_63 : decode cX1_walk 63 = .ok (.istore_n 2, 1) := by decide +kernel
theorem dX1_walk_64 : decode cX1_walk 64 = .ok (.aload_n 0, 1) := by decide +kernel
theorem dX1_walk_65 : decode cX1_walk 65 = .ok (.dup, 1) := by decide +kernel
theorem dX1_walk_66 : decode cX1_walk 66 = .ok (.getfield 40, 3) := by decide +kernel
theorem dX1_walk_69 : decode cX1_walk 69 = .ok (.iload_n 2, 1) := by decide +kernel
theorem dX1_walk_70 : decode cX1_walk 70 = .ok (.isub, 1) := by decide +kernel
theorem dX1_walk_71 : decode cX1_walk 71 = .ok (.putfield 40, 3) := by decide +kernel
theorem dX1_walk_74 : decode cX1_walk 74 = .ok (.aload_n 0, 1) := by decide +kernel
theorem dX1_walk_75 : decode cX1_walk 75 = .ok (.dup, 1) := by decide +kernel
theorem dX1_walk_76 : decode cX1_walk 76 = .ok (.getfield 28, 3) := by decide +kernel
theorem dX1_walk_79 : decode cX1_walk 79 = .ok (.iload_n 2, 1) := by decide +kernel
theorem dX1_walk_80 : decode cX1_walk 80 = .ok (.iadd, 1) := by decide +kernel
theorem dX1_walk_81 : decode cX1_walk 81 = .ok (.putfield 28, 3) := by decide +kernel
theorem dX1_walk_84 : decode cX1_walk 84 = .ok (.iload_n 2, 1) := by decide +kernel
theorem dX1_walk_85 : decode cX1_walk 85 = .ok (.ireturn, 1) := by decide +kernel
theorem dX1_eat_0 : decode cX1_eat 0 = .ok (.aload_n 0, 1) := by decide +kernel
theorem dX1_eat_1 : decode cX1_eat 1 = .ok (.dup, 1) := by decide +kernel
theorem dX1_eat_2 : decode cX1_eat 2 = .ok (.getfield 37, 3) := by decide +kernel
theorem dX1_eat_5 : decode cX1_eat 5 = .ok (.iload_n 1, 1) := by decide +kernel
theorem dX1_eat_6 : decode cX1_eat 6 = .ok (.iadd, 1) := by decide +kernel
theorem dX1_eat_7 : decode cX1_eat 7 = .ok (.putfield 37, 3) := by decide +kernel
theorem dX1_eat_10 : decode cX1_eat 10 = .ok (.iload_n 1, 1) := by decide +kernel
theorem dX1_eat_11 : decode cX1_eat 11 = .ok (.aload_n 0, 1) := by decide +kernel
theorem dX1_eat_12 : decode cX1_eat 12 = .ok (.invokevirtual 70, 3) := by decide +kernel
theorem dX1_eat_15 : decode cX1_eat 15 = .ok (.if_icmp .lt 30, 3) := by decide +kernel
theorem dX1_eat_18 : decode cX1_eat 18 = .ok (.aload_n 0, 1) := by decide +kernel
theorem dX1_eat_19 : decode cX1_eat 19 = .ok (.sipush 700, 3) := by decide +kernel
theorem dX1_eat_22 : decode cX1_eat 22 = .ok (.aload_n 0, 1) := by decide +kernel
theorem dX1_eat_23 : decode cX1_eat 23 = .ok (.getfield 43, 3) := by decide +kernel
theorem dX1_eat_26 : decode cX1_eat 26 = .ok (.iload_n 2, 1) := by decide +kernel
theorem dX1_eat_27 : decode cX1_eat 27 = .ok (.ifCond .eq 7, 3) := by decide +kernel
theorem dX1_eat_30 : decode cX1_eat 30 = .ok (.iconst 1, 1) := by decide +kernel
theorem dX1_eat_31 : decode cX1_eat 31 = .ok (.goto 4, 3) := by decide +kernel
theorem dX1_eat_34 : decode cX1_eat 34 = .ok (.iconst 3, 1) := by decide +kernel
theorem dX1_eat_35 : decode cX1_eat 35 = .ok (.iadd, 1) := by decide +kernel
theorem dX1_eat_36 : decode cX1_eat 36 = .ok (.invokestatic 66, 3) := by decide +kernel
theorem dX1_eat_39 : decode cX1_eat 39 = .ok (.putfield 43, 3) := by decide +kernel
theorem dX1_eat_42 : decode cX1_eat 42 = .ok (.goto 17, 3) := by decide +kernel
theorem dX1_eat_45 : decode cX1_eat 45 = .ok (.aload_n 0, 1) := by decide +kernel
theorem dX1_eat_46 : decode cX1_eat 46 = .ok (.iconst 0, 1) := by decide +kernel
theorem dX1_eat_47 : decode cX1_eat 47 = .ok (.aload_n 0, 1) := by decide +kernel
theorem dX1_eat_48 : decode cX1_eat 48 = .ok (.getfield 43, 3) := by decide +kernel
theorem dX1_eat_51 : decode cX1_eat 51 = .ok (.iconst 4, 1) := by decide +kernel
theorem dX1_eat_52 : decode cX1_eat 52 = .ok (.isub, 1) := by decide +kernel
theorem dX1_eat_53 : decode cX1_eat 53 = .ok (.invokestatic 60, 3) := by decide +kernel
theorem dX1_eat_56 : decode cX1_eat 56 = .ok (.putfield 43, 3) := by decide +kernel
theorem dX1_eat_59 : decode cX1_eat 59 = .ok (.aload_n 0, 1) := by decide +kernel
theorem dX1_eat_60 : decode cX1_eat 60 = .ok (.getfield 43, 3) := by decide +kernel
theorem dX1_eat_63 : decode cX1_eat 63 = .ok (.bipush 80, 2) := by decide +kernel
theorem dX1_eat_65 : decode cX1_eat 65 = .ok (.if_icmp .ge 40, 3) := by decide +kernel
theorem dX1_eat_68 : decode cX1_eat 68 = .ok (.aload_n 0, 1) := by decide +kernel
theorem dX1_eat_69 : decode cX1_eat 69 = .ok (.getfield 40, 3) := by decide +kernel
theorem dX1_eat_72 : decode cX1_eat 72 = .ok (.aload_n 0, 1) := by decide +kernel
theorem dX1_eat_73 : decode cX1_eat 73 = .ok (.getfield 40, 3) := by decide +kernel
theorem dX1_eat_76 : decode cX1_eat 76 = .ok (.bipush 10, 2) := by decide +kernel
theorem dX1_eat_78 : decode cX1_eat 78 = .ok (.idiv, 1) := by decide +kernel
theorem dX1_eat_79 : decode cX1_eat 79 = .ok (.iconst 1, 1) := by decide +kernel
theorem dX1_eat_80 : decode cX1_eat 80 = .ok (.iadd, 1) := by decide +kernel
theorem dX1_eat_81 : decode cX1_eat 81 = .ok (.invokestatic 66, 3) := by decide +kernel
theorem dX1_eat_84 : decode cX1_eat 84 = .ok (.istore_n 3, 1) := by decide +kernel
theorem dX1_eat_85 : decode cX1_eat 85 = .ok (.aload_n 0, 1) := by decide +kernel
theorem dX1_eat_86 : decode cX1_eat 86 = .ok (.dup, 1) := by decide +kernel
theorem dX1_eat_87 : decode cX1_eat 87 = .ok (.getfield 40, 3) := by decide +kernel
theorem dX1_eat_90 : decode cX1_eat 90 = .ok (.iload_n 3, 1) := by decide +kernel
theorem dX1_eat_91 : decode cX1_eat 91 = .ok (.isub, 1) := by decide +kernel
theorem dX1_eat_92 : decode cX1_eat 92 = .ok (.putfield 40, 3) := by decide +kernel
theorem dX1_eat_95 : decode cX1_eat 95 = .ok (.aload_n 0, 1) := by decide +kernel
theorem dX1_eat_96 : decode cX1_eat 96 = .ok (.dup, 1) := by decide +kernel
theorem dX1_eat_97 : decode cX1_eat 97 = .ok (.getfield 34, 3) := by decide +kernel
theorem dX1_eat_100 : decode cX1_eat 100 = .ok (.iload_n 3, 1) := by decide +kernel
theorem dX1_eat_101 : decode cX1_eat 101 = .ok (.iadd, 1) := by decide +kernel
theorem dX1_eat_102 : decode cX1_eat 102 = .ok (.putfield 34, 3) := by decide +kernel
theorem dX1_eat_105 : decode cX1_eat 105 = .ok (.return_, 1) := by decide +kernel
theorem dX1_tell_0 : decode cX1_tell 0 = .ok (.iload_n 1, 1) := by decide +kernel
theorem dX1_tell_1 : decode cX1_tell 1 = .ok (.tableswitch 108 0 9 #[55, 60, 65, 70, 75, 80, 85, 90, 95, 103], 55) := by decide +kernel
theorem dX1_tell_56 : decode cX1_tell 56 = .ok (.aload_n 0, 1) := by decide +kernel
theorem dX1_tell_57 : decode cX1_tell 57 = .ok (.getfield 40, 3) := by decide +kernel
theorem dX1_tell_60 : decode cX1_tell 60 = .ok (.ireturn, 1) := by decide +kernel
theorem dX1_tell_61 : decode cX1_tell 61 = .ok (.aload_n 0, 1) := by decide +kernel
theorem dX1_tell_62 : decode cX1_tell 62 = .ok (.getfield 43, 3) := by decide +kernel
theorem dX1_tell_65 : decode cX1_tell 65 = .ok (.ireturn, 1) := by decide +kernel
theorem dX1_tell_66 : decode cX1_tell 66 = .ok (.aload_n 0, 1) := by decide +kernel
theorem dX1_tell_67 : decode cX1_tell 67 = .ok (.getfield 9, 3) := by decide +kernel
theorem dX1_tell_70 : decode cX1_tell 70 = .ok (.ireturn, 1) := by decide +kernel
theorem dX1_tell_71 : decode cX1_tell 71 = .ok (.aload_n 0, 1) := by decide +kernel
theorem dX1_tell_72 : decode cX1_tell 72 = .ok (.getfield 15, 3) := by decide +kernel
theorem dX1_tell_75 : decode cX1_tell 75 = .ok (.ireturn, 1) := by decide +kernel
theorem dX1_tell_76 : decode cX1_tell 76 = .ok (.aload_n 0, 1) := by decide +kernel
theorem dX1_tell_77 : decode cX1_tell 77 = .ok (.getfield 25, 3) := by decide +kernel
theorem dX1_tell_80 : decode cX1_tell 80 = .ok (.ireturn, 1) := by decide +kernel
theorem dX1_tell_81 : decode cX1_tell 81 = .ok (.aload_n 0, 1) := by decide +kernel
theorem dX1_tell_82 : decode cX1_tell 82 = .ok (.getfield 28, 3) := by decide +kernel
theorem dX1_tell_85 : decode cX1_tell 85 = .ok (.ireturn, 1) := by decide +kernel
theorem dX1_tell_86 : decode cX1_tell 86 = .ok (.aload_n 0, 1) := by decide +kernel
theorem dX1_tell_87 : decode cX1_tell 87 = .ok (.getfield 31, 3) := by decide +kernel
theorem dX1_tell_90 : decode cX1_tell 90 = .ok (.ireturn, 1) := by decide +kernel
theorem dX1_tell_91 : decode cX1_tell 91 = .ok (.aload_n 0, 1) := by decide +kernel
theorem dX1_tell_92 : decode cX1_tell 92 = .ok (.getfield 34, 3) := by decide +kernel
theorem dX1_tell_95 : decode cX1_tell 95 = .ok (.ireturn, 1) := by decide +kernel
theorem dX1_tell_96 : decode cX1_tell 96 = .ok (.aload_n 0, 1) := by decide +kernel
theorem dX1_tell_97 : decode cX1_tell 97 = .ok (.getfield 21, 3) := by decide +kernel
theorem dX1_tell_100 : decode cX1_tell 100 = .ok (.getfield 74, 3) := by decide +kernel
theorem dX1_tell_103 : decode cX1_tell 103 = .ok (.ireturn, 1) := by decide +kernel
theorem dX1_tell_104 : decode cX1_tell 104 = .ok (.aload_n 0, 1) := by decide +kernel
theorem dX1_tell_105 : decode cX1_tell 105 = .ok (.getfield 37, 3) := by decide +kernel
theorem dX1_tell_108 : decode cX1_tell 108 = .ok (.ireturn, 1) := by decide +kernel
theorem dX1_tell_109 : decode cX1_tell 109 = .ok (.iconst (-1), 1) := by decide +kernel
theorem dX1_tell_110 : decode cX1_tell 110 = .ok (.ireturn, 1) := by decide +kernel
theorem dX2_init_0 : decode cX2_init 0 = .ok (.aload_n 0, 1) := by decide +kernel
theorem dX2_init_1 : decode cX2_init 1 = .ok (.invokespecial 3, 3) := by decide +kernel
theorem dX2_init_4 : decode cX2_init 4 = .ok (.aload_n 0, 1) := by decide +kernel
theorem dX2_init_5 : decode cX2_init 5 = .ok (.iconst 0, 1) := by decide +kernel
theorem dX2_init_6 : decode cX2_init 6 = .ok (.putfield 9, 3) := by decide +kernel
theorem dX2_init_9 : decode cX2_init 9 = .ok (.aload_n 0, 1) := by decide +kernel
theorem dX2_init_10 : decode cX2_init 10 = .ok (.bipush 30, 2) := by decide +kernel
theorem dX2_init_12 : decode cX2_init 12 = .ok (.newarray .int, 2) := by decide +kernel
theorem dX2_init_14 : decode cX2_init 14 = .ok (.putfield 15, 3) := by decide +kernel
theorem dX2_init_17 : decode cX2_init 17 = .ok (.aload_n 0, 1) := by decide +kernel
theorem dX2_init_18 : decode cX2_init 18 = .ok (.bipush 30, 2) := by decide +kernel
theorem dX2_init_20 : decode cX2_init 20 = .ok (.newarray .int, 2) := by decide +kernel
theorem dX2_init_22 : decode cX2_init 22 = .ok (.putfield 19, 3) := by decide +kernel
theorem dX2_init_25 : decode cX2_init 25 = .ok (.return_, 1) := by decide +kernel
theorem dX2_send_0 : decode cX2_send 0 = .ok (.iload_n 1, 1) := by decide +kernel
theorem dX2_send_1 : decode cX2_send 1 = .ok (.iconst 0, 1) := by decide +kernel
theorem dX2_send_2 : decode cX2_send 2 = .ok (.sipush 1000, 3) := by decide +kernel
theorem dX2_send_5 : decode cX2_send 5 = .ok (.invokestatic 22, 3) := by decide +kernel
theorem dX2_send_8 : decode cX2_send 8 = .ok (.ifCond .eq 12, 3) := by decide +kernel
theorem dX2_send_11 : decode cX2_send 11 = .ok (.aload_n 0, 1) := by decide +kernel
theorem dX2_send_12 : decode cX2_send 12 = .ok (.getfield 9, 3) := by decide +kernel
theorem dX2_send_15 : decode cX2_send 15 = .ok (.bipush 30, 2) := by decide +kernel
theorem dX2_send_17 : decode cX2_send 17 = .ok (.if_icmp .lt 5, 3) := by decide +kernel
theorem dX2_send_20 : decode cX2_send 20 = .ok (.iconst (-1), 1) := by decide +kernel
theorem dX2_send_21 : decode cX2_send 21 = .ok (.ireturn, 1) := by decide +kernel
theorem dX2_send_22 : decode cX2_send 22 = .ok (.aload_n 0, 1) := by decide +kernel
theorem dX2_send_23 : decode cX2_send 23 = .ok (.getfield 15, 3) := by decide +kernel
theorem dX2_send_26 : decode cX2_send 26 = .ok (.aload_n 0, 1) := by decide +kernel
theorem dX2_send_27 : decode cX2_send 27 = .ok (.getfield 9, 3) := by decide +kernel
theorem dX2_send_30 : decode cX2_send 30 = .ok (.iload_n 1, 1) := by decide +kernel
theorem dX2_send_31 : decode cX2_send 31 = .ok (.iastore, 1) := by decide +kernel
theorem dX2_send_32 : decode cX2_send 32 = .ok (.aload_n 0, 1) := by decide +kernel
theorem dX2_send_33 : decode cX2_send 33 = .ok (.getfield 19, 3) := by decide +kernel
theorem dX2_send_36 : decode cX2_send 36 = .ok (.aload_n 0, 1) := by decide +kernel
theorem dX2_send_37 : decode cX2_send 37 = .ok (.getfield 9, 3) := by decide +kernel
theorem dX2_send_40 : decode cX2_send 40 = .ok (.iload_n 2, 1) := by decide +kernel
theorem dX2_send_41 : decode cX2_send 41 = .ok (.iastore, 1) := by decide +kernel
theorem dX2_send_42 : decode cX2_send 42 = .ok (.aload_n 0, 1) := by decide +kernel
theorem dX2_send_43 : decode cX2_send 43 = .ok (.dup, 1) := by decide +kernel
theorem dX2_send_44 : decode cX2_send 44 = .ok (.getfield 9, 3) := by decide +kernel
theorem dX2_send_47 : decode cX2_send 47 = .ok (.iconst 1, 1) := by decide +kernel
theorem dX2_send_48 : decode cX2_send 48 = .ok (.iadd, 1) := by decide +kernel
theorem dX2_send_49 : decode cX2_send 49 = .ok (.putfield 9, 3) := by decide +kernel
theorem dX2_send_52 : decode cX2_send 52 = .ok (.aload_n 0, 1) := by decide +kernel
theorem dX2_send_53 : decode cX2_send 53 = .ok (.getfield 9, 3) := by decide +kernel
theorem dX2_send_56 : decode cX2_send 56 = .ok (.ireturn, 1) := by decide +kernel
theorem dX2_priceKnown_0 : decode cX2_priceKnown 0 = .ok (.iload_n 1, 1) := by decide +kernel
theorem dX2_priceKnown_1 : decode cX2_priceKnown 1 = .ok (.bipush 40, 2) := by decide +kernel
theorem dX2_priceKnown_3 : decode cX2_priceKnown 3 = .ok (.iadd, 1) := by decide +kernel
theorem dX2_priceKnown_4 : decode cX2_priceKnown 4 = .ok (.iconst 1, 1) := by decide +kernel
theorem dX2_priceKnown_5 : decode cX2_priceKnown 5 = .ok (.isub, 1) := by decide +kernel
theorem dX2_priceKnown_6 : decode cX2_priceKnown 6 = .ok (.bipush 40, 2) := by decide +kernel
theorem dX2_priceKnown_8 : decode cX2_priceKnown 8 = .ok (.idiv, 1) := by decide +kernel
theorem dX2_priceKnown_9 : decode cX2_priceKnown 9 = .ok (.istore_n 3, 1) := by decide +kernel
theorem dX2_priceKnown_10 : decode cX2_priceKnown 10 = .ok (.aload_n 0, 1) := by decide +kernel
theorem dX2_priceKnown_11 : decode cX2_priceKnown 11 = .ok (.getfield 9, 3) := by decide +kernel
theorem dX2_priceKnown_14 : decode cX2_priceKnown 14 = .ok (.iconst 1, 1) := by decide +kernel
theorem dX2_priceKnown_15 : decode cX2_priceKnown 15 = .ok (.isub, 1) := by decide +kernel
theorem dX2_priceKnown_16 : decode cX2_priceKnown 16 = .ok (.istore 4, 2) := by decide +kernel
theorem dX2_priceKnown_18 : decode cX2_priceKnown 18 = .ok (.iload 4, 2) := by decide +kernel
theorem dX2_priceKnown_20 : decode cX2_priceKnown 20 = .ok (.ifCond .lt 30, 3) := by decide +kernel
theorem dX2_priceKnown_23 : decode cX2_priceKnown 23 = .ok (.aload_n 0, 1) := by decide +kernel
theorem dX2_priceKnown_24 : decode cX2_priceKnown 24 = .ok (.getfield 19, 3) := by decide +kernel
theorem dX2_priceKnown_27 : decode cX2_priceKnown 27 = .ok (.iload 4, 2) := by decide +kernel
theorem dX2_priceKnown_29 : decode cX2_priceKnown 29 = .ok (.iaload, 1) := by decide +kernel
theorem dX2_priceKnown_30 : decode cX2_priceKnown 30 = .ok (.iload_n 3, 1) := by decide +kernel
theorem dX2_priceKnown_31 : decode cX2_priceKnown 31 = .ok (.iadd, 1) := by decide +kernel
theorem dX2_priceKnown_32 : decode cX2_priceKnown 32 = .ok (.iload_n 2, 1) := by decide +kernel
theorem dX2_priceKnown_33 : decode cX2_priceKnown 33 = .ok (.if_icmp .gt 11, 3) := by decide +kernel
theorem dX2_priceKnown_36 : decode cX2_priceKnown 36 = .ok (.aload_n 0, 1) := by decide +kernel
theorem dX2_priceKnown_37 : decode cX2_priceKnown 37 = .ok (.getfield 15, 3) := by decide +kernel
theorem dX2_priceKnown_40 : decode cX2_priceKnown 40 = .ok (.iload 4, 2) := by decide +kernel
theorem dX2_priceKnown_42 : decode cX2_priceKnown 42 = .ok (.iaload, 1) := by decide +kernel
theorem dX2_priceKnown_43 : decode cX2_priceKnown 43 = .ok (.ireturn, 1) := by decide +kernel
theorem dX2_priceKnown_44 : decode cX2_priceKnown 44 = .ok (.iinc 4 (-1), 3) := by decide +kernel
theorem dX2_priceKnown_47 : decode cX2_priceKnown 47 = .ok (.goto (-29), 3) := by decide +kernel
theorem dX2_priceKnown_50 : decode cX2_priceKnown 50 = .ok (.iconst 0, 1) := by decide +kernel
theorem dX2_priceKnown_51 : decode cX2_priceKnown 51 = .ok (.ireturn, 1) := by decide +kernel
theorem dX3_init_0 : decode cX3_init 0 = .ok (.aload_n 0, 1) := by decide +kernel
theorem dX3_init_1 : decode cX3_init 1 = .ok (.invokespecial 1, 3) := by decide +kernel
theorem dX3_init_4 : decode cX3_init 4 = .ok (.aload_n 0, 1) := by decide +kernel
theorem dX3_init_5 : decode cX3_init 5 = .ok (.bipush 27, 2) := by decide +kernel
theorem dX3_init_7 : decode cX3_init 7 = .ok (.putfield 9, 3) := by decide +kernel
theorem dX3_init_10 : decode cX3_init 10 = .ok (.aload_n 0, 1) := by decide +kernel
theorem dX3_init_11 : decode cX3_init 11 = .ok (.iconst 0, 1) := by decide +kernel
theorem dX3_init_12 : decode cX3_init 12 = .ok (.putfield 13, 3) := by decide +kernel
theorem dX3_init_15 : decode cX3_init 15 = .ok (.aload_n 0, 1) := by decide +kernel
theorem dX3_init_16 : decode cX3_init 16 = .ok (.iconst 0, 1) := by decide +kernel
theorem dX3_init_17 : decode cX3_init 17 = .ok (.putfield 16, 3) := by decide +kernel
theorem dX3_init_20 : decode cX3_init 20 = .ok (.aload_n 0, 1) := by decide +kernel
theorem dX3_init_21 : decode cX3_init 21 = .ok (.iconst 0, 1) := by decide +kernel
theorem dX3_init_22 : decode cX3_init 22 = .ok (.putfield 19, 3) := by decide +kernel
theorem dX3_init_25 : decode cX3_init 25 = .ok (.aload_n 0, 1) := by decide +kernel
theorem dX3_init_26 : decode cX3_init 26 = .ok (.aload_n 1, 1) := by decide +kernel
theorem dX3_init_27 : decode cX3_init 27 = .ok (.putfield 22, 3) := by decide +kernel
theorem dX3_init_30 : decode cX3_init 30 = .ok (.aload_n 0, 1) := by decide +kernel
theorem dX3_init_31 : decode cX3_init 31 = .ok (.iload_n 2, 1) := by decide +kernel
theorem dX3_init_32 : decode cX3_init 32 = .ok (.aload_n 1, 1) := by decide +kernel
theorem dX3_init_33 : decode cX3_init 33 = .ok (.arraylength, 1) := by decide +kernel
theorem dX3_init_34 : decode cX3_init 34 = .ok (.invokestatic 26, 3) := by decide +kernel
theorem dX3_init_37 : decode cX3_init 37 = .ok (.putfield 32, 3) := by decide +kernel
theorem dX3_init_40 : decode cX3_init 40 = .ok (.return_, 1) := by decide +kernel
theorem dX3_advance_0 : decode cX3_advance 0 = .ok (.aload_n 0, 1) := by decide +kernel
theorem dX3_advance_1 : decode cX3_advance 1 = .ok (.getfield 19, 3) := by decide +kernel
theorem dX3_advance_4 : decode cX3_advance 4 = .ok (.aload_n 0, 1) := by decide +kernel
theorem dX3_advance_5 : decode cX3_advance 5 = .ok (.getfield 32, 3) := by decide +kernel
theorem dX3_advance_8 : decode cX3_advance 8 = .ok (.if_icmp .ge 30, 3) := by decide +kernel
theorem dX3_advance_11 : decode cX3_advance 11 = .ok (.aload_n 0, 1) := by decide +kernel
theorem dX3_advance_12 : decode cX3_advance 12 = .ok (.aload_n 0, 1) := by decide +kernel
theorem dX3_advance_13 : decode cX3_advance 13 = .ok (.getfield 19, 3) := by decide +kernel
theorem dX3_advance_16 : decode cX3_advance 16 = .ok (.invokevirtual 35, 3) := by decide +kernel
theorem dX3_advance_19 : decode cX3_advance 19 = .ok (.invokestatic 39, 3) := by decide +kernel
theorem dX3_advance_22 : decode cX3_advance 22 = .ok (.ifCond .eq 16, 3) := by decide +kernel
theorem dX3_advance_25 : decode cX3_advance 25 = .ok (.aload_n 0, 1) := by decide +kernel
theorem dX3_advance_26 : decode cX3_advance 26 = .ok (.dup, 1) := by decide +kernel
theorem dX3_advance_27 : decode cX3_advance 27 = .ok (.getfield 19, 3) := by decide +kernel
theorem dX3_advance_30 : decode cX3_advance 30 = .ok (.iconst 1, 1) := by decide +kernel
theorem dX3_advance_31 : decode cX3_advance 31 = .ok (.iadd, 1) := by decide +kernel
theorem dX3_advance_32 : decode cX3_advance 32 = .ok (.putfield 19, 3) := by decide +kernel
theorem dX3_advance_35 : decode cX3_advance 35 = .ok (.goto (-35), 3) := by decide +kernel
theorem dX3_advance_38 : decode cX3_advance 38 = .ok (.aload_n 0, 1) := by decide +kernel
theorem dX3_advance_39 : decode cX3_advance 39 = .ok (.aload_n 0, 1) := by decide +kernel
theorem dX3_advance_40 : decode cX3_advance 40 = .ok (.getfield 19, 3) := by decide +kernel
theorem dX3_advance_43 : decode cX3_advance 43 = .ok (.putfield 13, 3) := by decide +kernel
theorem dX3_advance_46 : decode cX3_advance 46 = .ok (.aload_n 0, 1) := by decide +kernel
theorem dX3_advance_47 : decode cX3_advance 47 = .ok (.aload_n 0, 1) := by decide +kernel
theorem dX3_advance_48 : decode cX3_advance 48 = .ok (.getfield 19, 3) := by decide +kernel
theorem dX3_advance_51 : decode cX3_advance 51 = .ok (.invokevirtual 35, 3) := by decide +kernel
theorem dX3_advance_54 : decode cX3_advance 54 = .ok (.istore_n 1, 1) := by decide +kernel
theorem dX3_advance_55 : decode cX3_advance 55 = .ok (.aload_n 0, 1) := by decide +kernel
theorem dX3_advance_56 : decode cX3_advance 56 = .ok (.getfield 19, 3) := by decide +kernel
theorem dX3_advance_59 : decode cX3_advance 59 = .ok (.aload_n 0, 1) := by decide +kernel
theorem dX3_advance_60 : decode cX3_advance 60 = .ok (.getfield 32, 3) := by decide +kernel
theorem dX3_advance_63 : decode cX3_advance 63 = .ok (.if_icmp .lt 12, 3) := by decide +kernel
theorem dX3_advance_66 : decode cX3_advance 66 = .ok (.aload_n 0, 1) := by decide +kernel
theorem dX3_advance_67 : decode cX3_advance 67 = .ok (.bipush 27, 2) := by decide +kernel
theorem dX3_advance_69 : decode cX3_advance 69 = .ok (.putfield 9, 3) := by decide +kernel
theorem dX3_advance_72 : decode cX3_advance 72 = .ok (.goto 37, 3) := by decide +kernel
theorem dX3_advance_75 : decode cX3_advance 75 = .ok (.iload_n 1, 1) := by decide +kernel
theorem dX3_advance_76 : decode cX3_advance 76 = .ok (.invokestatic 43, 3) := by decide +kernel
theorem dX3_advance_79 : decode cX3_advance 79 = .ok (.ifCond .eq 10, 3) := by decide +kernel
theorem dX3_advance_82 : decode cX3_advance 82 = .ok (.aload_n 0, 1) := by decide +kernel
theorem dX3_advance_83 : decode cX3_advance 83 = .ok (.invokevirtual 46, 3) := by decide +kernel
theorem dX3_advance_86 : decode cX3_advance 86 = .ok (.goto 23, 3) := by decide +kernel
theorem dX3_advance_89 : decode cX3_advance 89 = .ok (.iload_n 1, 1) := by decide +kernel
theorem dX3_advance_90 : decode cX3_advance 90 = .ok (.invokestatic 49, 3) := by decide +kernel
theorem dX3_advance_93 : decode cX3_advance 93 = .ok (.ifCond .eq 10, 3) := by decide +kernel
theorem dX3_advance_96 : decode cX3_advance 96 = .ok (.aload_n 0, 1) := by decide +kernel
theorem dX3_advance_97 : decode cX3_advance 97 = .ok (.invokevirtual 52, 3) := by decide +kernel
theorem dX3_advance_100 : decode cX3_advance 100 = .ok (.goto 9, 3) := by decide +kernel
theorem dX3_advance_103 : decode cX3_advance 103 = .ok (.aload_n 0, 1) := by decide +kernel
theorem dX3_advance_104 : decode cX3_advance 104 = .ok (.iload_n 1, 1) := by decide +kernel
theorem dX3_advance_105 : decode cX3_advance 105 = .ok (.i2c, 1) := by decide +kernel
theorem dX3_advance_106 : decode cX3_advance 106 = .ok (.invokevirtual 55, 3) := by decide +kernel
theorem dX3_advance_109 : decode cX3_advance 109 = .ok (.return_, 1) := by decide +kernel
theorem dX3_scanWord_0 : decode cX3_scanWord 0 = .ok (.aload_n 0, 1) := by decide +kernel
theorem dX3_scanWord_1 : decode cX3_scanWord 1 = .ok (.getfield 19, 3) := by decide +kernel
theorem dX3_scanWord_4 : decode cX3_scanWord 4 = .ok (.aload_n 0, 1) := by decide +kernel
theorem dX3_scanWord_5 : decode cX3_scanWord 5 = .ok (.getfield 32, 3) := by decide +kernel
theorem dX3_scanWord_8 : decode cX3_scanWord 8 = .ok (.if_icmp .ge 30, 3) := by decide +kernel
theorem dX3_scanWord_11 : decode cX3_scanWord 11 = .ok (.aload_n 0, 1) := by decide +kernel
theorem dX3_scanWord_12 : decode cX3_scanWord 12 = .ok (.aload_n 0, 1) := by decide +kernel
theorem dX3_scanWord_13 : decode cX3_scanWord 13 = .ok (.getfield 19, 3) := by decide +kernel
theorem dX3_scanWord_16 : decode cX3_scanWord 16 = .ok (.invokevirtual 35, 3) := by decide +kernel
theorem dX3_scanWord_19 : decode cX3_scanWord 19 = .ok (.invokestatic 43, 3) := by decide +kernel
theorem dX3_scanWord_22 : decode cX3_scanWord 22 = .ok (.ifCond .eq 16, 3) := by decide +kernel
theorem dX3_scanWord_25 : decode cX3_scanWord 25 = .ok (.aload_n 0, 1) := by decide +kernel
theorem dX3_scanWord_26 : decode cX3_scanWord 26 = .ok (.dup, 1) := by decide +kernel
theorem dX3_scanWord_27 : decode cX3_scanWord 27 = .ok (.getfield 19, 3) := by decide +kernel
theorem dX3_scanWord_30 : decode cX3_scanWord 30 = .ok (.iconst 1, 1) := by decide +kernel
theorem dX3_scanWord_31 : decode cX3_scanWord 31 = .ok (.iadd, 1) := by decide +kernel
theorem dX3_scanWord_32 : decode cX3_scanWord 32 = .ok (.putfield 19, 3) := by decide +kernel
theorem dX3_scanWord_35 : decode cX3_scanWord 35 = .ok (.goto (-35), 3) := by decide +kernel
theorem dX3_scanWord_38 : decode cX3_scanWord 38 = .ok (.aload_n 0, 1) := by decide +kernel
theorem dX3_scanWord_39 : decode cX3_scanWord 39 = .ok (.aload_n 0, 1) := by decide +kernel
theorem dX3_scanWord_40 : decode cX3_scanWord 40 = .ok (.getfield 19, 3) := by decide +kernel
theorem dX3_scanWord_43 : decode cX3_scanWord 43 = .ok (.aload_n 0, 1) := by decide +kernel
theorem dX3_scanWord_44 : decode cX3_scanWord 44 = .ok (.getfield 13, 3) := by decide +kernel
theorem dX3_scanWord_47 : decode cX3_scanWord 47 = .ok (.isub, 1) := by decide +kernel
theorem dX3_scanWord_48 : decode cX3_scanWord 48 = .ok (.bipush 8, 2) := by decide +kernel
theorem dX3_scanWord_50 : decode cX3_scanWord 50 = .ok (.if_icmp .le 8, 3) := by decide +kernel
theorem dX3_scanWord_53 : decode cX3_scanWord 53 = .ok (.bipush 28, 2) := by decide +kernel
theorem dX3_scanWord_55 : decode cX3_scanWord 55 = .ok (.goto 7, 3) := by decide +kernel
theorem dX3_scanWord_58 : decode cX3_scanWord 58 = .ok (.aload_n 0, 1) := by decide +kernel
theorem dX3_scanWord_59 : decode cX3_scanWord 59 = .ok (.invokevirtual 59, 3) := by decide +kernel
theorem dX3_scanWord_62 : decode cX3_scanWord 62 = .ok (.putfield 9, 3) := by decide +kernel
theorem dX3_scanWord_65 : decode cX3_scanWord 65 = .ok (.return_, 1) := by decide +kernel
theorem dX3_scanNumber_0 : decode cX3_scanNumber 0 = .ok (.aload_n 0, 1) := by decide +kernel
theorem dX3_scanNumber_1 : decode cX3_scanNumber 1 = .ok (.iconst 0, 1) := by decide +kernel
theorem dX3_scanNumber_2 : decode cX3_scanNumber 2 = .ok (.putfield 16, 3) := by decide +kernel
theorem dX3_scanNumber_5 : decode cX3_scanNumber 5 = .ok (.aload_n 0, 1) := by decide +kernel
theorem dX3_scanNumber_6 : decode cX3_scanNumber 6 = .ok (.getfield 19, 3) := by decide +kernel
theorem dX3_scanNumber_9 : decode cX3_scanNumber 9 = .ok (.aload_n 0, 1) := by decide +kernel
theorem dX3_scanNumber_10 : decode cX3_scanNumber 10 = .ok (.getfield 32, 3) := by decide +kernel
theorem dX3_scanNumber_13 : decode cX3_scanNumber 13 = .ok (.if_icmp .ge 53, 3) := by decide +kernel
theorem dX3_scanNumber_16 : decode cX3_scanNumber 16 = .ok (.aload_n 0, 1) := by decide +kernel
theorem dX3_scanNumber_17 : decode cX3_scanNumber 17 = .ok (.aload_n 0, 1) := by decide +kernel
theorem dX3_scanNumber_18 : decode cX3_scanNumber 18 = .ok (.getfield 19, 3) := by decide +kernel
theorem dX3_scanNumber_21 : decode cX3_scanNumber 21 = .ok (.invokevirtual 35, 3) := by decide +kernel
theorem dX3_scanNumber_24 : decode cX3_scanNumber 24 = .ok (.invokestatic 49, 3) := by decide +kernel
theorem dX3_scanNumber_27 : decode cX3_scanNumber 27 = .ok (.ifCond .eq 39, 3) := by decide +kernel
theorem dX3_scanNumber_30 : decode cX3_scanNumber 30 = .ok (.aload_n 0, 1) := by decide +kernel
theorem dX3_scanNumber_31 : decode cX3_scanNumber 31 = .ok (.aload_n 0, 1) := by decide +kernel
theorem dX3_scanNumber_32 : decode cX3_scanNumber 32 = .ok (.getfield 16, 3) := by decide +kernel
theorem dX3_scanNumber_35 : decode cX3_scanNumber 35 = .ok (.bipush 10, 2) := by decide +kernel
theorem dX3_scanNumber_37 : decode cX3_scanNumber 37 = .ok (.imul, 1) := by decide +kernel
theorem dX3_scanNumber_38 : decode cX3_scanNumber 38 = .ok (.aload_n 0, 1) := by decide +kernel
theorem dX3_scanNumber_39 : decode cX3_scanNumber 39 = .ok (.aload_n 0, 1) := by decide +kernel
theorem dX3_scanNumber_40 : decode cX3_scanNumber 40 = .ok (.getfield 19, 3) := by decide +kernel
theorem dX3_scanNumber_43 : decode cX3_scanNumber 43 = .ok (.invokevirtual 35, 3) := by decide +kernel
theorem dX3_scanNumber_46 : decode cX3_scanNumber 46 = .ok (.bipush 48, 2) := by decide +kernel
theorem dX3_scanNumber_48 : decode cX3_scanNumber 48 = .ok (.isub, 1) := by decide +kernel
theorem dX3_scanNumber_49 : decode cX3_scanNumber 49 = .ok (.iadd, 1) := by decide +kernel
theorem dX3_scanNumber_50 : decode cX3_scanNumber 50 = .ok (.putfield 16, 3) := by decide +kernel
theorem dX3_scanNumber_53 : decode cX3_scanNumber 53 = .ok (.aload_n 0, 1) := by decide +kernel
theorem dX3_scanNumber_54 : decode cX3_scanNumber 54 = .ok (.dup, 1) := by decide +kernel
theorem dX3_scanNumber_55 : decode cX3_scanNumber 55 = .ok (.getfield 19, 3) := by decide +kernel
theorem dX3_scanNumber_58 : decode cX3_scanNumber 58 = .ok (.iconst 1, 1) := by decide +kernel
theorem dX3_scanNumber_59 : decode cX3_scanNumber 59 = .ok (.iadd, 1) := by decide +kernel
theorem dX3_scanNumber_60 : decode cX3_scanNumber 60 = .ok (.putfield 19, 3) := by decide +kernel
theorem dX3_scanNumber_63 : decode cX3_scanNumber 63 = .ok (.goto (-58), 3) := by decide +kernel
theorem dX3_scanNumber_66 : decode cX3_scanNumber 66 = .ok (.aload_n 0, 1) := by decide +kernel
theorem dX3_scanNumber_67 : decode cX3_scanNumber 67 = .ok (.getfield 19, 3) := by decide +kernel
theorem dX3_scanNumber_70 : decode cX3_scanNumber 70 = .ok (.aload_n 0, 1) := by decide +kernel
theorem dX3_scanNumber_71 : decode cX3_scanNumber 71 = .ok (.getfield 13, 3) := by decide +kernel
theorem dX3_scanNumber_74 : decode cX3_scanNumber 74 = .ok (.isub, 1) := by decide +kernel
theorem dX3_scanNumber_75 : decode cX3_scanNumber 75 = .ok (.bipush 6, 2) := by decide +kernel
theorem dX3_scanNumber_77 : decode cX3_scanNumber 77 = .ok (.if_icmp .gt 21, 3) := by decide +kernel
theorem dX3_scanNumber_80 : decode cX3_scanNumber 80 = .ok (.aload_n 0, 1) := by decide +kernel
theorem dX3_scanNumber_81 : decode cX3_scanNumber 81 = .ok (.aload_n 0, 1) := by decide +kernel
theorem dX3_scanNumber_82 : decode cX3_scanNumber 82 = .ok (.getfield 19, 3) := by decide +kernel
theorem dX3_scanNumber_85 : decode cX3_scanNumber 85 = .ok (.invokevirtual 35, 3) := by decide +kernel
theorem dX3_scanNumber_88 : decode cX3_scanNumber 88 = .ok (.invokestatic 43, 3) := by decide +kernel
theorem dX3_scanNumber_91 : decode cX3_scanNumber 91 = .ok (.ifCond .ne 7, 3) := by decide +kernel
theorem dX3_scanNumber_94 : decode cX3_scanNumber 94 = .ok (.iconst 1, 1) := by decide +kernel
theorem dX3_scanNumber_95 : decode cX3_scanNumber 95 = .ok (.goto 4, 3) := by decide +kernel
theorem dX3_scanNumber_98 : decode cX3_scanNumber 98 = .ok (.iconst 0, 1) := by decide +kernel
theorem dX3_scanNumber_99 : decode cX3_scanNumber 99 = .ok (.istore_n 1, 1) := by decide +kernel
theorem dX3_scanNumber_100 : decode cX3_scanNumber 100 = .ok (.aload_n 0, 1) := by decide +kernel
theorem dX3_scanNumber_101 : decode cX3_scanNumber 101 = .ok (.iload_n 1, 1) := by decide +kernel
theorem dX3_scanNumber_102 : decode cX3_scanNumber 102 = .ok (.ifCond .eq 8, 3) := by decide +kernel
theorem dX3_scanNumber_105 : decode cX3_scanNumber 105 = .ok (.bipush 25, 2) := by decide +kernel
theorem dX3_scanNumber_107 : decode cX3_scanNumber 107 = .ok (.goto 5, 3) := by decide +kernel
theorem dX3_scanNumber_110 : decode cX3_scanNumber 110 = .ok (.bipush 28, 2) := by decide +kernel
theorem dX3_scanNumber_112 : decode cX3_scanNumber 112 = .ok (.putfield 9, 3) := by decide +kernel
theorem dX3_scanNumber_115 : decode cX3_scanNumber 115 = .ok (.return_, 1) := by decide +kernel
theorem dX3_scanSign_0 : decode cX3_scanSign 0 = .ok (.ldc 63, 2) := by decide +kernel
theorem dX3_scanSign_2 : decode cX3_scanSign 2 = .ok (.iload_n 1, 1) := by decide +kernel
theorem dX3_scanSign_3 : decode cX3_scanSign 3 = .ok (.invokevirtual 65, 3) := by decide +kernel
theorem dX3_scanSign_6 : decode cX3_scanSign 6 = .ok (.istore_n 2, 1) := by decide +kernel
theorem dX3_scanSign_7 : decode cX3_scanSign 7 = .ok (.aload_n 0, 1) := by decide +kernel
theorem dX3_scanSign_8 : decode cX3_scanSign 8 = .ok (.iload_n 2, 1) := by decide +kernel
end
section
abbrev vwCl : List vw_C := [(RX0, TX0, 7), (RX1, TX1, 12), (RX2, TX2, 3), (RX3, TX3, 6), (RX4, TX4, 4), (RX5, TX5, 5), (RX6, TX6, 5), (RX7, TX7, 8), (RX8, TX8, 3), (RX9, TX9, 7), (RX10, TX10, 12), (RX11, TX11, 67)]
section BASE
/-! words that every method hands on -/
def gw_tbl : List Cond := lw_tbl.filter goodWord
theorem gw_in {w : Cond} (h : w ∈ lw_tbl) (hg : goodWord w = true) : w ∈ gw_tbl := List.mem_filter.mpr ⟨h, hg⟩
theorem gw_at {w : Cond} (i : Nat) (h : lw_tbl[i]? = some w) (hg : goodWord w = true) : w ∈ gw_tbl := gw_in (List.mem_of_getElem? h) hg
theorem gw_good : ∀ w ∈ gw_tbl, goodWord w = true := fun w h => (List.mem_filter.mp h).2
theorem gw_lw : ∀ w ∈ gw_tbl, w ∈ lw_tbl := fun w h => (List.mem_filter.mp h).1
theorem gw_GoodIn {ws : List Cond} (h : ∀ w ∈ ws, w ∈ gw_tbl) : GoodIn gw_tbl ws := fun w hw => ⟨h w hw, good_of_word (gw_good w (h w hw))⟩
abbrev gws (y : MethodName) (b : ByteArray) (n : Nat) (r : Option FieldType) : List Cond := .code y b n r :: gw_tbl
theorem gw_gws {y : MethodName} {b : ByteArray} {n : Nat} {r : Option FieldType} (h : Cond.code y b n r ∈ gw_tbl) : ∀ w ∈ gws y b n r, w ∈ gw_tbl := fun w hw => (List.mem_cons.mp hw).elim (fun e => e ▸ h) id
theorem gw_V {own C : String} {idx : Nat} {y : MethodName} {b : ByteArray} {n : Nat} {r : Option FieldType} (h1 : Cond.methodLink own idx y ∈ gw_tbl) (h2 : Cond.instanceMethod y ∈ gw_tbl) (h3 : Cond.selects C y y ∈ gw_tbl) (h4 : Cond.initialized C ∈ gw_tbl) (h5 : Cond.code y b n r ∈ gw_tbl) : GoodIn gw_tbl (wsV own idx C y (gws y b n r)) := gw_GoodIn (fun w hw => by
  unfold wsV at hw
  rcases List.mem_append.mp hw with hw | hw
  · simp only [List.mem_cons, List.not_mem_nil, or_false] at hw
    rcases hw with rfl | rfl | rfl | rfl <;> assumption
  · exact gw_gws h5 w hw)
theorem gw_S {own : String} {idx : Nat} {y : MethodName} {b : ByteArray} {n : Nat} {r : Option FieldType} (h1 : Cond.methodLink own idx y ∈ gw_tbl) (h2 : Cond.static y ∈ gw_tbl) (h4 : Cond.initialized y.cls ∈ gw_tbl) (h5 : Cond.code y b n r ∈ gw_tbl) : GoodIn gw_tbl (va_wsS own idx y (gws y b n r)) := gw_GoodIn (fun w hw => by
  unfold va_wsS at hw
  rcases List.mem_append.mp hw with hw | hw
  · simp only [List.mem_cons, List.not_mem_nil, or_false] at hw
    rcases hw with rfl | rfl | rfl <;> assumption
  · exact gw_gws h5 w hw)
/-! the state -/
abbrev Cx : Type := va_G × ClassId × ClassId × ClassId × ClassId
def gtys (g : Cx) : List (ClassId × FieldType) := [(g.2.1, .byte), (g.2.2.1, .int), (g.2.2.2.1, .boolean), (g.2.2.2.2, .object "DroveRoads$Herd")]
abbrev St : Type := (Nat → Nat → Int32) × (Nat → Nat → Option Nat) × (Nat → Int64)
def gv (S : St) (o k : Nat) : Int32 := S.1 o k
def gr (S : St) (o k : Nat) : Option Nat := S.2.1 o k
def gl (S : St) (o : Nat) : Int64 := S.2.2 o
def up2 {α : Type} (f : Nat → Nat → α) (o k : Nat) (x : α) : Nat → Nat → α := fun a => if a = o then va_up (f o) k x else f a
def sv (S : St) (o k : Nat) (x : Int32) : St := (up2 S.1 o k x, S.2)
def sr (S : St) (o k : Nat) (x : Option Nat) : St := (S.1, up2 S.2.1 o k x, S.2.2)
def sl (S : St) (o : Nat) (x : Int64) : St := (S.1, S.2.1, va_up S.2.2 o x)
theorem up2_at {α : Type} (f : Nat → Nat → α) (o k : Nat) (x : α) : up2 f o k x o = va_up (f o) k x := if_pos rfl
theorem up2_ne {α : Type} (f : Nat → Nat → α) {o a : Nat} (k : Nat) (x : α) (h : a ≠ o) : up2 f o k x a = f a := if_neg h
/-! the cells by their logical numbers -/
def kal (o : Nat) : Nat := if o < 20 then 10 else if o < 30 then 30 else if o < 40 then 20 else if o < 50 then 60 else if o = 50 then 9 else 80
def mal (k : Nat) : Nat := if k ≤ 6 then 10 else if k ≤ 9 then 30 else if k ≤ 21 then 6 else if k ≤ 23 then 3000 else if k ≤ 24 then 60 else if k ≤ 26 then 48 else if k ≤ 27 then 6 else if k ≤ 29 then 500 else if k ≤ 30 then 10 else if k ≤ 32 then 8 else if k ≤ 36 then 500 else if k ≤ 46 then 400 else if k ≤ 49 then 300 else if k ≤ 50 then 9 else if k ≤ 53 then 244000 else if k ≤ 60 then 20 else 60
def kc (g : Cx) (ad : Nat → Nat) (o : Nat) (V : Nat → Int32) (R : Nat → Option Nat) (J : Int64) : va_E :=
  if o < 60 then
    if o < 8 then
      if o = 0 then .inr (10, [.ref (ad 1), .ref (ad 2), .ref (ad 3), .ref (ad 6), .ref (ad 7), .ref (ad 5), va_re ad (R 6), .int (V 7), .int (V 8), .int (V 9), .int (V 10), .int (V 11)])
      else if o = 1 then .inr (9, [.int (V 0), .ref (ad 11), .ref (ad 12), .ref (ad 13), .ref (ad 14), .ref (ad 15), .ref (ad 16)])
      else if o = 2 then .inr (2, [.int (V 0), .ref (ad 21), .ref (ad 22)])
      else if o = 3 then .inr (0, [.int (V 0), .ref (ad 4), .ref (ad 32), .ref (ad 33), .ref (ad 34), .ref (ad 35), .ref (ad 36)])
      else if o = 4 then .inr (7, [.int (V 0), .ref (ad 41), .ref (ad 42), .ref (ad 43), .ref (ad 44), .ref (ad 45), .ref (ad 46), .ref (ad 47)])
      else if o = 5 then .inr (8, [.ref (ad 50), .ref (ad 51), .int (V 2)])
      else if o = 6 then .inl (g.2.2.2.2, 6, .inr (.inr (.inr (.inr (fun i => (R i).map ad)))))
      else .inl (g.2.1, 500, .inl V)
    else .inl (g.2.2.1, kal o, .inl V)
  else if o < 66 then .inr (1, [.int (V 0), .int (V 1), .int (V 2), .int (V 3), .int (V 4), .int (V 5), va_re ad (R 6), .int (V 7), .int (V 8), .int (V 9), .int (V 10), .int (V 11)])
  else if o < 77 then .inr (5, [.ref (ad (o + 10)), .ref (ad (o + 20)), .ref (ad (o + 30)), .int (V 3), .int (V 4)])
  else if o < 87 then .inl (g.2.2.1, 500, .inl V)
  else if o < 107 then .inl (g.2.2.1, 8, .inl V)
  else if o < 111 then .inr (6, [.int (V 0), .int (V 1), .ref (ad 111), va_re ad (R 3), .int (V 4)])
  else if o < 112 then .inr (3, [.int (V 0), .int (V 1), .int (V 2), .ref (ad 7), .int (V 4), .int (V 5)])
  else if o < 113 then .inr (4, [.int (V 0), .ref (ad 1), .int (V 2), .int (V 3)])
  else if o < 201 then .inr (11, [.int (V 0), .int (V 1), .ref (ad 203), .ref (ad 204), .ref (ad 205), .ref (ad 206), .ref (ad 207), .int (V 7), .ref (ad 209), .ref (ad 210), .int (V 10), .ref (ad 212), .ref (ad 213), .ref (ad 214), .ref (ad 215), .ref (ad 216), .ref (ad 217), .ref (ad 218), .ref (ad 219), .ref (ad 220), .ref (ad 221), .ref (ad 222), .ref (ad 223), .ref (ad 224), .ref (ad 225), .ref (ad 226), .ref (ad 227), .ref (ad 228), .ref (ad 229), .ref (ad 230), .ref (ad 231), .ref (ad 232), .ref (ad 233), .int (V 33), .int (V 34), .int (V 35), .ref (ad 237), .int (V 37), .int (V 38), .int (V 39), .int (V 40), .int (V 41), .int (V 42), .int (V 43), .int (V 44), .long J, .ref (ad 247), .int (V 47), .int (V 48), .ref (ad 250), .ref (ad 251), .ref (ad 252), .ref (ad 253), .ref (ad 254), .int (V 54), .int (V 55), .ref (ad 257), .ref (ad 258), .ref (ad 259), .ref (ad 260), .ref (ad 261), .ref (ad 262), .ref (ad 263), .ref (ad 264), .ref (ad 265), .ref (ad 266), .ref (ad 267)])
  else if o = 254 then .inl (g.2.2.2.1, 244000, .inl V)
  else .inl (g.2.2.1, mal (o - 201), .inl V)
def cellOf (g : Cx) (ad : Nat → Nat) (S : St) (o : Nat) : va_E := kc g ad o (S.1 o) (S.2.1 o) (S.2.2 o)
/-- which cells there always are -/
def bsl : List Nat := [0, 1, 2, 3, 4, 5, 6, 7, 11, 12, 13, 14, 15, 16, 21, 22, 32, 33, 34, 35, 36, 41, 42, 43, 44, 45, 46, 47, 50, 51, 200, 203, 204, 205, 206, 207, 209, 210, 212, 213, 214, 215, 216, 217, 218, 219, 220, 221, 222, 223, 224, 225, 226, 227, 228, 229, 230, 231, 232, 233, 237, 247, 250, 251, 252, 253, 254, 257, 258, 259, 260, 261, 262, 263, 264, 265, 266, 267]
def Lk (L : List Nat) : Prop := ∀ x ∈ bsl, x ∈ L
abbrev okh (L : List Nat) (x : Nat) : Prop := 60 ≤ x ∧ x < 66 ∧ x ∈ L
abbrev oko (L : List Nat) (x : Nat) : Prop := 70 ≤ x ∧ x < 77 ∧ x ∈ L ∧ x + 10 ∈ L ∧ x + 20 ∈ L ∧ x + 30 ∈ L
theorem kd_herd {g : Cx} {ad : Nat → Nat} {S : St} {L : List Nat} {o : Nat} (h : okh L o) : cellOf g ad S o = .inr (1, [.int (gv S o 0), .int (gv S o 1), .int (gv S o 2), .int (gv S o 3), .int (gv S o 4), .int (gv S o 5), va_re ad (gr S o 6), .int (gv S o 7), .int (gv S o 8), .int (gv S o 9), .int (gv S o 10), .int (gv S o 11)]) := by
  obtain ⟨h1, h2, -⟩ := h
  unfold cellOf kc
  rw [if_neg (by omega), if_pos h2]
  rfl
theorem kd_ord {g : Cx} {ad : Nat → Nat} {S : St} {L : List Nat} {o : Nat} (h : oko L o) : cellOf g ad S o = .inr (5, [.ref (ad (o + 10)), .ref (ad (o + 20)), .ref (ad (o + 30)), .int (gv S o 3), .int (gv S o 4)]) := by
  obtain ⟨h1, h2, -⟩ := h
  unfold cellOf kc
  rw [if_neg (by omega), if_neg (by omega), if_pos h2]
  rfl
theorem kd_ordA {g : Cx} {ad : Nat → Nat} {S : St} {L : List Nat} {o : Nat} (h : oko L o) : cellOf g ad S (o + 10) = .inl (g.2.2.1, 500, .inl (S.1 (o + 10))) := by
  obtain ⟨h1, h2, -⟩ := h
  unfold cellOf kc
  rw [if_neg (by omega), if_neg (by omega), if_neg (by omega), if_pos (by omega)]
theorem kd_ordB {g : Cx} {ad : Nat → Nat} {S : St} {L : List Nat} {o : Nat} (h : oko L o) : cellOf g ad S (o + 20) = .inl (g.2.2.1, 8, .inl (S.1 (o + 20))) := by
  obtain ⟨h1, h2, -⟩ := h
  unfold cellOf kc
  rw [if_neg (by omega), if_neg (by omega), if_neg (by omega), if_neg (by omega), if_pos (by omega)]
theorem kd_ordC {g : Cx} {ad : Nat → Nat} {S : St} {L : List Nat} {o : Nat} (h : oko L o) : cellOf g ad S (o + 30) = .inl (g.2.2.1, 8, .inl (S.1 (o + 30))) := by
  obtain ⟨h1, h2, -⟩ := h
  unfold cellOf kc
  rw [if_neg (by omega), if_neg (by omega), if_neg (by omega), if_neg (by omega), if_pos (by omega)]
theorem kd_0 {g : Cx} {ad : Nat → Nat} {S : St} : cellOf g ad S 0 = .inr (10, [.ref (ad 1), .ref (ad 2), .ref (ad 3), .ref (ad 6), .ref (ad 7), .ref (ad 5), va_re ad (gr S 0 6), .int (gv S 0 7), .int (gv S 0 8), .int (gv S 0 9), .int (gv S 0 10), .int (gv S 0 11)]) := rfl
theorem kd_1 {g : Cx} {ad : Nat → Nat} {S : St} : cellOf g ad S 1 = .inr (9, [.int (gv S 1 0), .ref (ad 11), .ref (ad 12), .ref (ad 13), .ref (ad 14), .ref (ad 15), .ref (ad 16)]) := rfl
theorem kd_2 {g : Cx} {ad : Nat → Nat} {S : St} : cellOf g ad S 2 = .inr (2, [.int (gv S 2 0), .ref (ad 21), .ref (ad 22)]) := rfl
theorem kd_3 {g : Cx} {ad : Nat → Nat} {S : St} : cellOf g ad S 3 = .inr (0, [.int (gv S 3 0), .ref (ad 4), .ref (ad 32), .ref (ad 33), .ref (ad 34), .ref (ad 35), .ref (ad 36)]) := rfl
theorem kd_4 {g : Cx} {ad : Nat → Nat} {S : St} : cellOf g ad S 4 = .inr (7, [.int (gv S 4 0), .ref (ad 41), .ref (ad 42), .ref (ad 43), .ref (ad 44), .ref (ad 45), .ref (ad 46), .ref (ad 47)]) := rfl
theorem kd_5 {g : Cx} {ad : Nat → Nat} {S : St} : cellOf g ad S 5 = .inr (8, [.ref (ad 50), .ref (ad 51), .int (gv S 5 2)]) := rfl
theorem kd_110 {g : Cx} {ad : Nat → Nat} {S : St} : cellOf g ad S 110 = .inr (6, [.int (gv S 110 0), .int (gv S 110 1), .ref (ad 111), va_re ad (gr S 110 3), .int (gv S 110 4)]) := rfl
theorem kd_111 {g : Cx} {ad : Nat → Nat} {S : St} : cellOf g ad S 111 = .inr (3, [.int (gv S 111 0), .int (gv S 111 1), .int (gv S 111 2), .ref (ad 7), .int (gv S 111 4), .int (gv S 111 5)]) := rfl
theorem kd_112 {g : Cx} {ad : Nat → Nat} {S : St} : cellOf g ad S 112 = .inr (4, [.int (gv S 112 0), .ref (ad 1), .int (gv S 112 2), .int (gv S 112 3)]) := rfl
theorem kd_200 {g : Cx} {ad : Nat → Nat} {S : St} : cellOf g ad S 200 = .inr (11, [.int (gv S 200 0), .int (gv S 200 1), .ref (ad 203), .ref (ad 204), .ref (ad 205), .ref (ad 206), .ref (ad 207), .int (gv S 200 7), .ref (ad 209), .ref (ad 210), .int (gv S 200 10), .ref (ad 212), .ref (ad 213), .ref (ad 214), .ref (ad 215), .ref (ad 216), .ref (ad 217), .ref (ad 218), .ref (ad 219), .ref (ad 220), .ref (ad 221), .ref (ad 222), .ref (ad 223), .ref (ad 224), .ref (ad 225), .ref (ad 226), .ref (ad 227), .ref (ad 228), .ref (ad 229), .ref (ad 230), .ref (ad 231), .ref (ad 232), .ref (ad 233), .int (gv S 200 33), .int (gv S 200 34), .int (gv S 200 35), .ref (ad 237), .int (gv S 200 37), .int (gv S 200 38), .int (gv S 200 39), .int (gv S 200 40), .int (gv S 200 41), .int (gv S 200 42), .int (gv S 200 43), .int (gv S 200 44), .long (gl S 200), .ref (ad 247), .int (gv S 200 47), .int (gv S 200 48), .ref (ad 250), .ref (ad 251), .ref (ad 252), .ref (ad 253), .ref (ad 254), .int (gv S 200 54), .int (gv S 200 55), .ref (ad 257), .ref (ad 258), .ref (ad 259), .ref (ad 260), .ref (ad 261), .ref (ad 262), .ref (ad 263), .ref (ad 264), .ref (ad 265), .ref (ad 266), .ref (ad 267)]) := rfl
theorem kd_11 {g : Cx} {ad : Nat → Nat} {S : St} : cellOf g ad S 11 = .inl (g.2.2.1, 10, .inl (S.1 11)) := rfl
theorem kd_12 {g : Cx} {ad : Nat → Nat} {S : St} : cellOf g ad S 12 = .inl (g.2.2.1, 10, .inl (S.1 12)) := rfl
theorem kd_13 {g : Cx} {ad : Nat → Nat} {S : St} : cellOf g ad S 13 = .inl (g.2.2.1, 10, .inl (S.1 13)) := rfl
theorem kd_14 {g : Cx} {ad : Nat → Nat} {S : St} : cellOf g ad S 14 = .inl (g.2.2.1, 10, .inl (S.1 14)) := rfl
theorem kd_15 {g : Cx} {ad : Nat → Nat} {S : St} : cellOf g ad S 15 = .inl (g.2.2.1, 10, .inl (S.1 15)) := rfl
theorem kd_16 {g : Cx} {ad : Nat → Nat} {S : St} : cellOf g ad S 16 = .inl (g.2.2.1, 10, .inl (S.1 16)) := rfl
theorem kd_21 {g : Cx} {ad : Nat → Nat} {S : St} : cellOf g ad S 21 = .inl (g.2.2.1, 30, .inl (S.1 21)) := rfl
theorem kd_22 {g : Cx} {ad : Nat → Nat} {S : St} : cellOf g ad S 22 = .inl (g.2.2.1, 30, .inl (S.1 22)) := rfl
theorem kd_32 {g : Cx} {ad : Nat → Nat} {S : St} : cellOf g ad S 32 = .inl (g.2.2.1, 20, .inl (S.1 32)) := rfl
theorem kd_33 {g : Cx} {ad : Nat → Nat} {S : St} : cellOf g ad S 33 = .inl (g.2.2.1, 20, .inl (S.1 33)) := rfl
theorem kd_34 {g : Cx} {ad : Nat → Nat} {S : St} : cellOf g ad S 34 = .inl (g.2.2.1, 20, .inl (S.1 34)) := rfl
theorem kd_35 {g : Cx} {ad : Nat → Nat} {S : St} : cellOf g ad S 35 = .inl (g.2.2.1, 20, .inl (S.1 35)) := rfl
theorem kd_36 {g : Cx} {ad : Nat → Nat} {S : St} : cellOf g ad S 36 = .inl (g.2.2.1, 20, .inl (S.1 36)) := rfl
theorem kd_41 {g : Cx} {ad : Nat → Nat} {S : St} : cellOf g ad S 41 = .inl (g.2.2.1, 60, .inl (S.1 41)) := rfl
theorem kd_42 {g : Cx} {ad : Nat → Nat} {S : St} : cellOf g ad S 42 = .inl (g.2.2.1, 60, .inl (S.1 42)) := rfl
theorem kd_43 {g : Cx} {ad : Nat → Nat} {S : St} : cellOf g ad S 43 = .inl (g.2.2.1, 60, .inl (S.1 43)) := rfl
theorem kd_44 {g : Cx} {ad : Nat → Nat} {S : St} : cellOf g ad S 44 = .inl (g.2.2.1, 60, .inl (S.1 44)) := rfl
theorem kd_45 {g : Cx} {ad : Nat → Nat} {S : St} : cellOf g ad S 45 = .inl (g.2.2.1, 60, .inl (S.1 45)) := rfl
theorem kd_46 {g : Cx} {ad : Nat → Nat} {S : St} : cellOf g ad S 46 = .inl (g.2.2.1, 60, .inl (S.1 46)) := rfl
theorem kd_47 {g : Cx} {ad : Nat → Nat} {S : St} : cellOf g ad S 47 = .inl (g.2.2.1, 60, .inl (S.1 47)) := rfl
theorem kd_50 {g : Cx} {ad : Nat → Nat} {S : St} : cellOf g ad S 50 = .inl (g.2.2.1, 9, .inl (S.1 50)) := rfl
theorem kd_51 {g : Cx} {ad : Nat → Nat} {S : St} : cellOf g ad S 51 = .inl (g.2.2.1, 80, .inl (S.1 51)) := rfl
theorem kd_203 {g : Cx} {ad : Nat → Nat} {S : St} : cellOf g ad S 203 = .inl (g.2.2.1, 10, .inl (S.1 203)) := rfl
theorem kd_204 {g : Cx} {ad : Nat → Nat} {S : St} : cellOf g ad S 204 = .inl (g.2.2.1, 10, .inl (S.1 204)) := rfl
theorem kd_205 {g : Cx} {ad : Nat → Nat} {S : St} : cellOf g ad S 205 = .inl (g.2.2.1, 10, .inl (S.1 205)) := rfl
theorem kd_206 {g : Cx} {ad : Nat → Nat} {S : St} : cellOf g ad S 206 = .inl (g.2.2.1, 10, .inl (S.1 206)) := rfl
theorem kd_207 {g : Cx} {ad : Nat → Nat} {S : St} : cellOf g ad S 207 = .inl (g.2.2.1, 10, .inl (S.1 207)) := rfl
theorem kd_209 {g : Cx} {ad : Nat → Nat} {S : St} : cellOf g ad S 209 = .inl (g.2.2.1, 30, .inl (S.1 209)) := rfl
theorem kd_210 {g : Cx} {ad : Nat → Nat} {S : St} : cellOf g ad S 210 = .inl (g.2.2.1, 30, .inl (S.1 210)) := rfl
theorem kd_212 {g : Cx} {ad : Nat → Nat} {S : St} : cellOf g ad S 212 = .inl (g.2.2.1, 6, .inl (S.1 212)) := rfl
theorem kd_213 {g : Cx} {ad : Nat → Nat} {S : St} : cellOf g ad S 213 = .inl (g.2.2.1, 6, .inl (S.1 213)) := rfl
theorem kd_214 {g : Cx} {ad : Nat → Nat} {S : St} : cellOf g ad S 214 = .inl (g.2.2.1, 6, .inl (S.1 214)) := rfl
theorem kd_215 {g : Cx} {ad : Nat → Nat} {S : St} : cellOf g ad S 215 = .inl (g.2.2.1, 6, .inl (S.1 215)) := rfl
theorem kd_216 {g : Cx} {ad : Nat → Nat} {S : St} : cellOf g ad S 216 = .inl (g.2.2.1, 6, .inl (S.1 216)) := rfl
theorem kd_217 {g : Cx} {ad : Nat → Nat} {S : St} : cellOf g ad S 217 = .inl (g.2.2.1, 6, .inl (S.1 217)) := rfl
theorem kd_218 {g : Cx} {ad : Nat → Nat} {S : St} : cellOf g ad S 218 = .inl (g.2.2.1, 6, .inl (S.1 218)) := rfl
theorem kd_219 {g : Cx} {ad : Nat → Nat} {S : St} : cellOf g ad S 219 = .inl (g.2.2.1, 6, .inl (S.1 219)) := rfl
theorem kd_220 {g : Cx} {ad : Nat → Nat} {S : St} : cellOf g ad S 220 = .inl (g.2.2.1, 6, .inl (S.1 220)) := rfl
theorem kd_221 {g : Cx} {ad : Nat → Nat} {S : St} : cellOf g ad S 221 = .inl (g.2.2.1, 6, .inl (S.1 221)) := rfl
theorem kd_222 {g : Cx} {ad : Nat → Nat} {S : St} : cellOf g ad S 222 = .inl (g.2.2.1, 6, .inl (S.1 222)) := rfl
theorem kd_223 {g : Cx} {ad : Nat → Nat} {S : St} : cellOf g ad S 223 = .inl (g.2.2.1, 3000, .inl (S.1 223)) := rfl
theorem kd_224 {g : Cx} {ad : Nat → Nat} {S : St} : cellOf g ad S 224 = .inl (g.2.2.1, 3000, .inl (S.1 224)) := rfl
theorem kd_225 {g : Cx} {ad : Nat → Nat} {S : St} : cellOf g ad S 225 = .inl (g.2.2.1, 60, .inl (S.1 225)) := rfl
theorem kd_226 {g : Cx} {ad : Nat → Nat} {S : St} : cellOf g ad S 226 = .inl (g.2.2.1, 48, .inl (S.1 226)) := rfl
theorem kd_227 {g : Cx} {ad : Nat → Nat} {S : St} : cellOf g ad S 227 = .inl (g.2.2.1, 48, .inl (S.1 227)) := rfl
theorem kd_228 {g : Cx} {ad : Nat → Nat} {S : St} : cellOf g ad S 228 = .inl (g.2.2.1, 6, .inl (S.1 228)) := rfl
theorem kd_229 {g : Cx} {ad : Nat → Nat} {S : St} : cellOf g ad S 229 = .inl (g.2.2.1, 500, .inl (S.1 229)) := rfl
theorem kd_230 {g : Cx} {ad : Nat → Nat} {S : St} : cellOf g ad S 230 = .inl (g.2.2.1, 500, .inl (S.1 230)) := rfl
theorem kd_231 {g : Cx} {ad : Nat → Nat} {S : St} : cellOf g ad S 231 = .inl (g.2.2.1, 10, .inl (S.1 231)) := rfl
theorem kd_232 {g : Cx} {ad : Nat → Nat} {S : St} : cellOf g ad S 232 = .inl (g.2.2.1, 8, .inl (S.1 232)) := rfl
theorem kd_233 {g : Cx} {ad : Nat → Nat} {S : St} : cellOf g ad S 233 = .inl (g.2.2.1, 8, .inl (S.1 233)) := rfl
theorem kd_237 {g : Cx} {ad : Nat → Nat} {S : St} : cellOf g ad S 237 = .inl (g.2.2.1, 500, .inl (S.1 237)) := rfl
theorem kd_247 {g : Cx} {ad : Nat → Nat} {S : St} : cellOf g ad S 247 = .inl (g.2.2.1, 400, .inl (S.1 247)) := rfl
theorem kd_250 {g : Cx} {ad : Nat → Nat} {S : St} : cellOf g ad S 250 = .inl (g.2.2.1, 300, .inl (S.1 250)) := rfl
theorem kd_251 {g : Cx} {ad : Nat → Nat} {S : St} : cellOf g ad S 251 = .inl (g.2.2.1, 9, .inl (S.1 251)) := rfl
theorem kd_252 {g : Cx} {ad : Nat → Nat} {S : St} : cellOf g ad S 252 = .inl (g.2.2.1, 244000, .inl (S.1 252)) := rfl
theorem kd_253 {g : Cx} {ad : Nat → Nat} {S : St} : cellOf g ad S 253 = .inl (g.2.2.1, 244000, .inl (S.1 253)) := rfl
theorem kd_254 {g : Cx} {ad : Nat → Nat} {S : St} : cellOf g ad S 254 = .inl (g.2.2.2.1, 244000, .inl (S.1 254)) := rfl
theorem kd_257 {g : Cx} {ad : Nat → Nat} {S : St} : cellOf g ad S 257 = .inl (g.2.2.1, 20, .inl (S.1 257)) := rfl
theorem kd_258 {g : Cx} {ad : Nat → Nat} {S : St} : cellOf g ad S 258 = .inl (g.2.2.1, 20, .inl (S.1 258)) := rfl
theorem kd_259 {g : Cx} {ad : Nat → Nat} {S : St} : cellOf g ad S 259 = .inl (g.2.2.1, 20, .inl (S.1 259)) := rfl
theorem kd_260 {g : Cx} {ad : Nat → Nat} {S : St} : cellOf g ad S 260 = .inl (g.2.2.1, 20, .inl (S.1 260)) := rfl
theorem kd_261 {g : Cx} {ad : Nat → Nat} {S : St} : cellOf g ad S 261 = .inl (g.2.2.1, 20, .inl (S.1 261)) := rfl
theorem kd_262 {g : Cx} {ad : Nat → Nat} {S : St} : cellOf g ad S 262 = .inl (g.2.2.1, 60, .inl (S.1 262)) := rfl
theorem kd_263 {g : Cx} {ad : Nat → Nat} {S : St} : cellOf g ad S 263 = .inl (g.2.2.1, 60, .inl (S.1 263)) := rfl
theorem kd_264 {g : Cx} {ad : Nat → Nat} {S : St} : cellOf g ad S 264 = .inl (g.2.2.1, 60, .inl (S.1 264)) := rfl
theorem kd_265 {g : Cx} {ad : Nat → Nat} {S : St} : cellOf g ad S 265 = .inl (g.2.2.1, 60, .inl (S.1 265)) := rfl
theorem kd_266 {g : Cx} {ad : Nat → Nat} {S : St} : cellOf g ad S 266 = .inl (g.2.2.1, 60, .inl (S.1 266)) := rfl
theorem kd_267 {g : Cx} {ad : Nat → Nat} {S : St} : cellOf g ad S 267 = .inl (g.2.2.1, 60, .inl (S.1 267)) := rfl
theorem kd_7 {g : Cx} {ad : Nat → Nat} {S : St} : cellOf g ad S 7 = .inl (g.2.1, 500, .inl (S.1 7)) := rfl
theorem bb_0 : 0 ∈ bsl := by decide
theorem bb_1 : 1 ∈ bsl := by decide
theorem bb_2 : 2 ∈ bsl := by decide
theorem bb_3 : 3 ∈ bsl := by decide
theorem bb_4 : 4 ∈ bsl := by decide
theorem bb_5 : 5 ∈ bsl := by decide
theorem bb_6 : 6 ∈ bsl := by decide
theorem bb_7 : 7 ∈ bsl := by decide
theorem bb_11 : 11 ∈ bsl := by decide
theorem bb_12 : 12 ∈ bsl := by decide
theorem bb_13 : 13 ∈ bsl := by decide
theorem bb_14 : 14 ∈ bsl := by decide
theorem bb_15 : 15 ∈ bsl := by decide
theorem bb_16 : 16 ∈ bsl := by decide
theorem bb_21 : 21 ∈ bsl := by decide
theorem bb_22 : 22 ∈ bsl := by decide
theorem bb_32 : 32 ∈ bsl := by decide
theorem bb_33 : 33 ∈ bsl := by decide
theorem bb_34 : 34 ∈ bsl := by decide
theorem bb_35 : 35 ∈ bsl := by decide
theorem bb_36 : 36 ∈ bsl := by decide
theorem bb_41 : 41 ∈ bsl := by decide
theorem bb_42 : 42 ∈ bsl := by decide
theorem bb_43 : 43 ∈ bsl := by decide
theorem bb_44 : 44 ∈ bsl := by decide
theorem bb_45 : 45 ∈ bsl := by decide
theorem bb_46 : 46 ∈ bsl := by decide
theorem bb_47 : 47 ∈ bsl := by decide
theorem bb_50 : 50 ∈ bsl := by decide
theorem bb_51 : 51 ∈ bsl := by decide
theorem bb_200 : 200 ∈ bsl := by decide
theorem bb_203 : 203 ∈ bsl := by decide
theorem bb_204 : 204 ∈ bsl := by decide
theorem bb_205 : 205 ∈ bsl := by decide
theorem bb_206 : 206 ∈ bsl := by decide
theorem bb_207 : 207 ∈ bsl := by decide
theorem bb_209 : 209 ∈ bsl := by decide
theorem bb_210 : 210 ∈ bsl := by decide
theorem bb_212 : 212 ∈ bsl := by decide
theorem bb_213 : 213 ∈ bsl := by decide
theorem bb_214 : 214 ∈ bsl := by decide
theorem bb_215 : 215 ∈ bsl := by decide
theorem bb_216 : 216 ∈ bsl := by decide
theorem bb_217 : 217 ∈ bsl := by decide
theorem bb_218 : 218 ∈ bsl := by decide
theorem bb_219 : 219 ∈ bsl := by decide
theorem bb_220 : 220 ∈ bsl := by decide
theorem bb_221 : 221 ∈ bsl := by decide
theorem bb_222 : 222 ∈ bsl := by decide
theorem bb_223 : 223 ∈ bsl := by decide
theorem bb_224 : 224 ∈ bsl := by decide
theorem bb_225 : 225 ∈ bsl := by decide
theorem bb_226 : 226 ∈ bsl := by decide
theorem bb_227 : 227 ∈ bsl := by decide
theorem bb_228 : 228 ∈ bsl := by decide
theorem bb_229 : 229 ∈ bsl := by decide
theorem bb_230 : 230 ∈ bsl := by decide
theorem bb_231 : 231 ∈ bsl := by decide
theorem bb_232 : 232 ∈ bsl := by decide
theorem bb_233 : 233 ∈ bsl := by decide
theorem bb_237 : 237 ∈ bsl := by decide
theorem bb_247 : 247 ∈ bsl := by decide
theorem bb_250 : 250 ∈ bsl := by decide
theorem bb_251 : 251 ∈ bsl := by decide
theorem bb_252 : 252 ∈ bsl := by decide
theorem bb_253 : 253 ∈ bsl := by decide
theorem bb_254 : 254 ∈ bsl := by decide
theorem bb_257 : 257 ∈ bsl := by decide
theorem bb_258 : 258 ∈ bsl := by decide
theorem bb_259 : 259 ∈ bsl := by decide
theorem bb_260 : 260 ∈ bsl := by decide
theorem bb_261 : 261 ∈ bsl := by decide
theorem bb_262 : 262 ∈ bsl := by decide
theorem bb_263 : 263 ∈ bsl := by decide
theorem bb_264 : 264 ∈ bsl := by decide
theorem bb_265 : 265 ∈ bsl := by decide
theorem bb_266 : 266 ∈ bsl := by decide
theorem bb_267 : 267 ∈ bsl := by decide
/-! the world -/
def gls (g : Cx) (ad : Nat → Nat) (L : List Nat) (S : St) : va_W := L.map fun o => (ad o, cellOf g ad S o)
def GW (g : Cx) (A : Nat → Prop) (ad : Nat → Nat) (L : List Nat) (S : St) (H : Heap) : Prop := va_P g.1 vwCl (gls g ad L S) H ∧ va_D A (gls g ad L S)
def nestL : List (String × Nat × MethodName) := [("DroveRoads", 18, ⟨"DroveRoads$Letters", "<init>", "()V"⟩), ("DroveRoads", 25, ⟨"DroveRoads$Bills", "<init>", "()V"⟩), ("DroveRoads$Bills", 17, ⟨"DroveRoads$Passings", "<init>", "()V"⟩), ("DroveRoads", 42, ⟨"DroveRoads$Reckoner", "<init>", "()V"⟩), ("DroveRoads", 49, ⟨"DroveRoads$Orders", "<init>", "()V"⟩), ("DroveRoads$Road", 34, ⟨"DroveRoads", "within", "(III)Z"⟩), ("DroveRoads$Herd", 20, ⟨"DroveRoads$Orders", "<init>", "()V"⟩), ("DroveRoads$Letters", 22, ⟨"DroveRoads", "within", "(III)Z"⟩), ("DroveRoads$Parser", 90, ⟨"DroveRoads", "within", "(III)Z"⟩), ("DroveRoads$Bills", 39, ⟨"DroveRoads", "within", "(III)Z"⟩), ("DroveRoads$Passings", 37, ⟨"DroveRoads", "within", "(III)Z"⟩)]
def NW (U : State) : Prop := ∀ q ∈ nestL, va_Nw (.methodLinkNest q.1 q.2.1 q.2.2 "DroveRoads") U
theorem NW.warm {s U : State} (hW : s.WarmedH U.vm) (h : NW s) : NW U := fun q hq => va_Nw.warmM hW (h q hq)
def WU (g : Cx) (A : Nat → Prop) (ad : Nat → Nat) (L : List Nat) (S : St) (U : State) : Prop := GW g A ad L S U.heap ∧ va_K g.1 vwCl (gtys g) U ∧ NW U
theorem gls_at {g : Cx} {ad : Nat → Nat} {L : List Nat} {S : St} {o : Nat} (ho : o ∈ L) : ∃ q : Nat, L[q]? = some o ∧ (gls g ad L S)[q]? = some (ad o, cellOf g ad S o) := by
  obtain ⟨q, hq⟩ := List.getElem?_of_mem ho
  exact ⟨q, hq, by unfold gls; rw [List.getElem?_map, hq]; rfl⟩
theorem gls_set {g : Cx} {A : Nat → Prop} {ad : Nat → Nat} {L : List Nat} {S S1 : St} {o q : Nat} {e : va_E} (hD : va_D A (gls g ad L S)) (hq : L[q]? = some o) (h1 : cellOf g ad S1 o = e) (h2 : ∀ x, x ≠ o → cellOf g ad S1 x = cellOf g ad S x) : (gls g ad L S).set q (ad o, e) = gls g ad L S1 := by
  apply List.ext_getElem?
  intro i
  rw [List.getElem?_set]
  have hql : q < (gls g ad L S).length := by unfold gls; rw [List.length_map]; exact (List.getElem?_eq_some_iff.mp hq).1
  by_cases hi : q = i
  · subst hi
    rw [if_pos rfl, if_pos hql]
    unfold gls
    rw [List.getElem?_map, hq]
    show _ = some (ad o, cellOf g ad S1 o)
    rw [h1]
  · rw [if_neg hi]
    cases hx : L[i]? with
    | none => unfold gls; rw [List.getElem?_map, List.getElem?_map, hx]; rfl
    | some x =>
      have hxo : x ≠ o := fun e2 => by
        subst e2
        exact hi (hD.1 q i (ad x, cellOf g ad S x) (ad x, cellOf g ad S x) (by unfold gls; rw [List.getElem?_map, hq]; rfl) (by unfold gls; rw [List.getElem?_map, hx]; rfl) rfl)
      unfold gls
      rw [List.getElem?_map, List.getElem?_map, hx]
      show some (ad x, cellOf g ad S x) = some (ad x, cellOf g ad S1 x)
      rw [h2 x hxo]
theorem cellOf_sv {g : Cx} {ad : Nat → Nat} {S : St} {o k : Nat} {x : Int32} : ∀ y, y ≠ o → cellOf g ad (sv S o k x) y = cellOf g ad S y := fun y h => by
  unfold cellOf sv; dsimp only
  rw [up2_ne _ _ _ h]
theorem cellOf_sr {g : Cx} {ad : Nat → Nat} {S : St} {o k : Nat} {x : Option Nat} : ∀ y, y ≠ o → cellOf g ad (sr S o k x) y = cellOf g ad S y := fun y h => by
  unfold cellOf sr; dsimp only
  rw [up2_ne _ _ _ h]
theorem cellOf_sl {g : Cx} {ad : Nat → Nat} {S : St} {o : Nat} {x : Int64} : ∀ y, y ≠ o → cellOf g ad (sl S o x) y = cellOf g ad S y := fun y h => by
  unfold cellOf sl
  simp only [va_up, if_neg h]
/-! pure words -/
def bn {α β : Type} (e : α) (f : α → β) : β := f e
theorem bn_at {α β : Type} {e x : α} {f : α → β} {r : β} (ex : x = e) (h : bn e f = r) : f x = r := by subst ex; exact h
theorem it_t {α : Type} {c : Prop} {d : Decidable c} {a b x : α} (hc : c) (h : @ite α c d a b = x) : a = x := (if_pos hc).symm.trans h
theorem it_f {α : Type} {c : Prop} {d : Decidable c} {a b x : α} (hc : ¬ c) (h : @ite α c d a b = x) : b = x := (if_neg hc).symm.trans h
theorem ck_n {α : Type} {c : Prop} {d : Decidable c} {a : Option α} {x : α} (h : @ite (Option α) c d none a = some x) : ¬ c ∧ a = some x := by
  by_cases hc : c
  · have := it_t hc h
    cases this
  · exact ⟨hc, it_f hc h⟩
theorem ck_t {α : Type} {c : Prop} {d : Decidable c} {a : Option α} {x : α} (h : @ite (Option α) c d a none = some x) : c ∧ a = some x := by
  by_cases hc : c
  · exact ⟨hc, it_t hc h⟩
  · have := it_f hc h
    cases this
def cl0 {α β : Type} (e : Option α) (f : α → Option β) : Option β := match e with
  | none => none
  | some a => f a
theorem cl0_ex {α β : Type} {e : Option α} {f : α → Option β} {x : β} (h : cl0 e f = some x) : ∃ a, e = some a ∧ f a = some x := by
  cases e with
  | none => cases h
  | some a => exact ⟨a, rfl, h⟩
def cl1 {α β γ : Type} (e : Option (α × β)) (f : α → β → Option γ) : Option γ := match e with
  | none => none
  | some q => f q.1 q.2
theorem cl1_ex {α β γ : Type} {e : Option (α × β)} {f : α → β → Option γ} {x : γ} (h : cl1 e f = some x) : ∃ a b, e = some (a, b) ∧ f a b = some x := by
  cases e with
  | none => cases h
  | some q => exact ⟨q.1, q.2, rfl, h⟩
def oc {α : Type} (r : Option Nat) (a : α) (f : Nat → α) : α := match r with
  | none => a
  | some x => f x
abbrev ix (i : Int32) : Nat := i.toNatClampNeg
def bz (x : Int32) : Prop := narrow .boolean (.int x) = .int x
def rmk (k : Nat) : Room := { frames := k, cells := 0, slots := 0, locals := 64 * k }
end BASE

section ROWS
variable {p : Program} {l : Launch} {e : Env} {R : Room} {s : State} {m : MethodId} {args : Array Value} {below : List Frame} {meth : Method} {c : Code} {H : Heap} {locs : List Loc} {cells slots : Nat} {Q : State → Prop}
variable {cc : ByteArray} {pc : Nat} {ls : Array Slot} {rest : List Value} {A : Nat → Prop} {g : Cx} {ad : Nat → Nat} {L : List Nat} {S : St} {H0 : Heap}
def MC (p : Program) (s : State) (m : MethodId) (args : Array Value) (meth : Method) (c : Code) (cc : ByteArray) (nL : Nat) (ret : Option FieldType) (own : String) (g : Cx) : Prop :=
  p.tables.exec = Jvm.exec ∧ c.code = cc ∧ c.maxLocals = nL ∧ s.vm.findClass own = some m.cls ∧ (∀ w ∈ gw_tbl, w.before args s = true) ∧ meth.sig.returnType = ret ∧ meth.locks = false ∧ va_K g.1 vwCl (gtys g) s ∧ NW s
theorem g_get (hexec : p.tables.exec = Jvm.exec) (hb : c.code = cc) {own ref C : String} {T : u_T} {N ci index : Nat} (hts : ∀ w ∈ gw_tbl, w.before args s = true) (hin : ∀ w ∈ u_ws C T N, w ∈ gw_tbl) (hown : s.vm.findClass own = some m.cls) (hK : va_K g.1 vwCl (gtys g) s) (hW : GW g A ad L S H) {o : Nat} (ho : o ∈ L) {fs : List Value} (he : cellOf g ad S o = .inr (ci, fs)) (hc : vwCl[ci]? = some (C, T, N)) (k : Nat) (hk : k < N) (hlink : Cond.fieldLink own index ref (T k).2.1 (T k).2.2.1 ∈ gw_tbl) (href : ref = (T k).1) {v : Value} (hv : fs[k]? = some v) (hdg : decode cc pc = .ok (.getfield index, 3))
    (kk : W p l e R s m args below meth c H locs cells slots Q (F0 m (pc + 3) ls (v :: rest))) : W p l e R s m args below meth c H locs cells slots Q (F0 m pc ls (.ref (ad o) :: rest)) := by
  obtain ⟨q, hq, hq2⟩ := gls_at (g := g) (ad := ad) (S := S) ho
  rw [he] at hq2
  exact va_get hexec hb hts hin hown hK hW.1 q hq2 hc k hk (hts _ hlink) (fun x h => by rw [href]; exact h) hv hdg kk
theorem g_put (hexec : p.tables.exec = Jvm.exec) (hb : c.code = cc) {own ref C : String} {T : u_T} {N ci index : Nat} (hts : ∀ w ∈ gw_tbl, w.before args s = true) (hin : ∀ w ∈ u_ws C T N, w ∈ gw_tbl) (ty0 : Nat → FieldType) (hty : ∀ k, k < N → parseFieldDescriptor (T k).2.2.1 = some (ty0 k)) (hnm : ∀ a, a < N → ∀ b, b < N → a ≠ b → (T a).2.1 ≠ (T b).2.1) (hown : s.vm.findClass own = some m.cls) (hK : va_K g.1 vwCl (gtys g) s) (hW : GW g A ad L S H) (hS : va_S A H0 H locs) {o : Nat} (ho : o ∈ L) {fs : List Value} (he : cellOf g ad S o = .inr (ci, fs)) (hc : vwCl[ci]? = some (C, T, N)) (k : Nat) (hk : k < N) (hlink : Cond.fieldLink own index ref (T k).2.1 (T k).2.2.1 ∈ gw_tbl) (href : ref = (T k).1) (hfin : (T k).2.2.2 = false) {v : Value} (hn : narrow (ty0 k) v = v) (hfit : fits (ty0 k) v = true) (hl : k < fs.length) (S1 : St) (h1 : cellOf g ad S1 o = .inr (ci, fs.set k v)) (h2 : ∀ x, x ≠ o → cellOf g ad S1 x = cellOf g ad S x)
    (hdg : decode cc pc = .ok (.putfield index, 3)) (kk : ∀ S2, S2 = S1 → ∀ (H1 : Heap) (locs1 : List Loc), GW g A ad L S2 H1 → va_S A H0 H1 locs1 → W p l e R s m args below meth c H1 locs1 cells slots Q (F0 m (pc + 3) ls rest)) : W p l e R s m args below meth c H locs cells slots Q (F0 m pc ls (v :: .ref (ad o) :: rest)) := by
  obtain ⟨q, hq, hq2⟩ := gls_at (g := g) (ad := ad) (S := S) ho
  rw [he] at hq2
  have hset := gls_set (S1 := S1) hW.2 hq h1 h2
  refine va_put hexec hb hts hin ty0 hty hnm hown hK hW.1 hW.2 hS q hq2 hc k hk (hts _ hlink) (fun x h => by rw [href]; exact h) hfin (hty k hk) hn hfit hl hdg (fun H1 locs1 hP hD hS1 => ?_)
  rw [hset] at hP hD
  exact kk S1 rfl H1 locs1 ⟨hP, hD⟩ hS1
theorem g_iald (hexec : p.tables.exec = Jvm.exec) (hb : c.code = cc) (hK : va_K g.1 vwCl (gtys g) s) (hW : GW g A ad L S H) {o n : Nat} (ho : o ∈ L) (he : cellOf g ad S o = .inl (g.2.2.1, n, .inl (S.1 o))) {i : Int32} (hin : ¬ (i < 0 ∨ n ≤ ix i)) (hdg : decode cc pc = .ok (.iaload, 1))
    (kk : W p l e R s m args below meth c H locs cells slots Q (F0 m (pc + 1) ls (.int (gv S o (ix i)) :: rest))) : W p l e R s m args below meth c H locs cells slots Q (F0 m pc ls (.int i :: .ref (ad o) :: rest)) := by
  obtain ⟨q, hq, hq2⟩ := gls_at (g := g) (ad := ad) (S := S) ho
  rw [he] at hq2
  exact va_iald hexec hb hK hW.1 q 1 hq2 rfl hin hdg kk
theorem g_bald (hexec : p.tables.exec = Jvm.exec) (hb : c.code = cc) (hK : va_K g.1 vwCl (gtys g) s) (hW : GW g A ad L S H) {o n : Nat} (ho : o ∈ L) (he : cellOf g ad S o = .inl (g.2.1, n, .inl (S.1 o))) {i : Int32} (hin : ¬ (i < 0 ∨ n ≤ ix i)) (hdg : decode cc pc = .ok (.baload, 1))
    (kk : W p l e R s m args below meth c H locs cells slots Q (F0 m (pc + 1) ls (.int (gv S o (ix i)) :: rest))) : W p l e R s m args below meth c H locs cells slots Q (F0 m pc ls (.int i :: .ref (ad o) :: rest)) := by
  obtain ⟨q, hq, hq2⟩ := gls_at (g := g) (ad := ad) (S := S) ho
  rw [he] at hq2
  exact va_bald hexec hb hK hW.1 q 0 hq2 rfl hin hdg kk
theorem g_zald (hexec : p.tables.exec = Jvm.exec) (hb : c.code = cc) (hK : va_K g.1 vwCl (gtys g) s) (hW : GW g A ad L S H) {o n : Nat} (ho : o ∈ L) (he : cellOf g ad S o = .inl (g.2.2.2.1, n, .inl (S.1 o))) {i : Int32} (hin : ¬ (i < 0 ∨ n ≤ ix i)) (hdg : decode cc pc = .ok (.baload, 1))
    (kk : W p l e R s m args below meth c H locs cells slots Q (F0 m (pc + 1) ls (.int (gv S o (ix i)) :: rest))) : W p l e R s m args below meth c H locs cells slots Q (F0 m pc ls (.int i :: .ref (ad o) :: rest)) := by
  obtain ⟨q, hq, hq2⟩ := gls_at (g := g) (ad := ad) (S := S) ho
  rw [he] at hq2
  exact va_zald hexec hb hK hW.1 q 2 hq2 rfl hin hdg kk
theorem sv_row {S : St} {o k : Nat} {x : Int32} : (sv S o k x).1 o = upd (S.1 o) k x := by
  show up2 S.1 o k x o = _
  rw [up2_at]
  rfl
theorem g_iast (hexec : p.tables.exec = Jvm.exec) (hb : c.code = cc) (hK : va_K g.1 vwCl (gtys g) s) (hW : GW g A ad L S H) (hS : va_S A H0 H locs) {o n : Nat} (ho : o ∈ L) (he : ∀ S : St, cellOf g ad S o = .inl (g.2.2.1, n, .inl (S.1 o))) {i x : Int32} (hin : ¬ (i < 0 ∨ n ≤ ix i)) (hdg : decode cc pc = .ok (.iastore, 1))
    (kk : ∀ S2, S2 = sv S o (ix i) x → ∀ (H1 : Heap) (locs1 : List Loc), GW g A ad L S2 H1 → va_S A H0 H1 locs1 → W p l e R s m args below meth c H1 locs1 cells slots Q (F0 m (pc + 1) ls rest)) : W p l e R s m args below meth c H locs cells slots Q (F0 m pc ls (.int x :: .int i :: .ref (ad o) :: rest)) := by
  obtain ⟨q, hq, hq2⟩ := gls_at (g := g) (ad := ad) (S := S) ho
  rw [he S] at hq2
  refine va_iast hexec hb hK hW.1 hW.2 hS q 1 hq2 rfl hin hdg (fun H1 locs1 hP hD hS1 => ?_)
  rw [gls_set (S1 := sv S o (ix i) x) hW.2 hq (by rw [he, sv_row]) cellOf_sv] at hP hD
  exact kk _ rfl H1 locs1 ⟨hP, hD⟩ hS1
theorem g_bast (hexec : p.tables.exec = Jvm.exec) (hb : c.code = cc) (hK : va_K g.1 vwCl (gtys g) s) (hW : GW g A ad L S H) (hS : va_S A H0 H locs) {o n : Nat} (ho : o ∈ L) (he : ∀ S : St, cellOf g ad S o = .inl (g.2.1, n, .inl (S.1 o))) {i x y : Int32} (hy : vp_nar .byte x = y) (hin : ¬ (i < 0 ∨ n ≤ ix i)) (hdg : decode cc pc = .ok (.bastore, 1))
    (kk : ∀ S2, S2 = sv S o (ix i) y → ∀ (H1 : Heap) (locs1 : List Loc), GW g A ad L S2 H1 → va_S A H0 H1 locs1 → W p l e R s m args below meth c H1 locs1 cells slots Q (F0 m (pc + 1) ls rest)) : W p l e R s m args below meth c H locs cells slots Q (F0 m pc ls (.int x :: .int i :: .ref (ad o) :: rest)) := by
  obtain ⟨q, hq, hq2⟩ := gls_at (g := g) (ad := ad) (S := S) ho
  rw [he S] at hq2
  refine va_bast hexec hb hK hW.1 hW.2 hS q 0 hq2 rfl hin hdg (fun H1 locs1 hP hD hS1 => ?_)
  rw [hy] at hP hD
  rw [gls_set (S1 := sv S o (ix i) y) hW.2 hq (by rw [he, sv_row]) cellOf_sv] at hP hD
  exact kk _ rfl H1 locs1 ⟨hP, hD⟩ hS1
theorem g_zast (hexec : p.tables.exec = Jvm.exec) (hb : c.code = cc) (hK : va_K g.1 vwCl (gtys g) s) (hW : GW g A ad L S H) (hS : va_S A H0 H locs) {o n : Nat} (ho : o ∈ L) (he : ∀ S : St, cellOf g ad S o = .inl (g.2.2.2.1, n, .inl (S.1 o))) {i x y : Int32} (hy : vp_nar .boolean x = y) (hin : ¬ (i < 0 ∨ n ≤ ix i)) (hdg : decode cc pc = .ok (.bastore, 1))
    (kk : ∀ S2, S2 = sv S o (ix i) y → ∀ (H1 : Heap) (locs1 : List Loc), GW g A ad L S2 H1 → va_S A H0 H1 locs1 → W p l e R s m args below meth c H1 locs1 cells slots Q (F0 m (pc + 1) ls rest)) : W p l e R s m args below meth c H locs cells slots Q (F0 m pc ls (.int x :: .int i :: .ref (ad o) :: rest)) := by
  obtain ⟨q, hq, hq2⟩ := gls_at (g := g) (ad := ad) (S := S) ho
  rw [he S] at hq2
  refine va_zast hexec hb hK hW.1 hW.2 hS q 2 hq2 rfl hin hdg (fun H1 locs1 hP hD hS1 => ?_)
  rw [hy] at hP hD
  rw [gls_set (S1 := sv S o (ix i) y) hW.2 hq (by rw [he, sv_row]) cellOf_sv] at hP hD
  exact kk _ rfl H1 locs1 ⟨hP, hD⟩ hS1
theorem g_alen (hexec : p.tables.exec = Jvm.exec) (hb : c.code = cc) (hK : va_K g.1 vwCl (gtys g) s) (hW : GW g A ad L S H) {o n : Nat} (ho : o ∈ L) {f : Nat → Int32} (t0 : Nat) {cA : ClassId} {ty : FieldType} (ht : (gtys g)[t0]? = some (cA, ty)) (he : cellOf g ad S o = .inl (cA, n, .inl f)) {v : Int32} (hv : Int32.ofNat n = v) (hdg : decode cc pc = .ok (.arraylength, 1))
    (kk : W p l e R s m args below meth c H locs cells slots Q (F0 m (pc + 1) ls (.int v :: rest))) : W p l e R s m args below meth c H locs cells slots Q (F0 m pc ls (.ref (ad o) :: rest)) := by
  obtain ⟨q, hq, hq2⟩ := gls_at (g := g) (ad := ad) (S := S) ho
  rw [he] at hq2
  exact va_alen hexec hb hK hW.1 q t0 hq2 ht hv hdg kk
/-- a row of references -/
theorem g_aald (hexec : p.tables.exec = Jvm.exec) (hb : c.code = cc) (hK : va_K g.1 vwCl (gtys g) s) (hW : GW g A ad L S H) (ho : 6 ∈ L) {i : Int32} (hin : ¬ (i < 0 ∨ 6 ≤ ix i)) (hdg : decode cc pc = .ok (.aaload, 1))
    (kk : W p l e R s m args below meth c H locs cells slots Q (F0 m (pc + 1) ls (va_re ad (gr S 6 (ix i)) :: rest))) : W p l e R s m args below meth c H locs cells slots Q (F0 m pc ls (.int i :: .ref (ad 6) :: rest)) := by
  obtain ⟨q, hq, hq2⟩ := gls_at (g := g) (ad := ad) (S := S) ho
  exact va_aldq hexec hb hK hW.1 q 3 (C := "DroveRoads$Herd") hq2 rfl hin hdg kk
/-! ends -/
abbrev qi (g : Cx) (A : Nat → Prop) (ad : Nat → Nat) (L : List Nat) (r : Int32) (S2 : St) : Array Value → State → Outcome → State → Prop := va_Qi (fun (x : Int32) (_ : Unit) => x = r) (fun _ t => GW g A ad L S2 t.heap) A
abbrev qz (g : Cx) (A : Nat → Prop) (ad : Nat → Nat) (L : List Nat) (r : Int32) (S2 : St) : Array Value → State → Outcome → State → Prop := va_Qi (fun (x : Int32) (_ : Unit) => x = r ∧ bz x) (fun _ t => GW g A ad L S2 t.heap) A
abbrev qv (g : Cx) (A : Nat → Prop) (ad : Nat → Nat) (L : List Nat) (S2 : St) : Array Value → State → Outcome → State → Prop := va_Qv (fun (_ : Unit) => True) (fun _ t => GW g A ad L S2 t.heap) A
abbrev qr (g : Cx) (A : Nat → Prop) (ad : Nat → Nat) (L : List Nat) (r : Option Nat) (S2 : St) : Array Value → State → Outcome → State → Prop := va_Qe ad (fun (x : Option Nat) (_ : Unit) => x = r) (fun _ t => GW g A ad L S2 t.heap) A
theorem g_iret (hexec : p.tables.exec = Jvm.exec) (hb : c.code = cc) (hr : meth.sig.returnType = some .int) (hlocks : meth.locks = false) (hW : GW g A ad L S H) (hS : va_S A s.heap H locs) {v : Int32} (hdg : decode cc pc = .ok (.ireturn, 1)) : W p l e R s m args below meth c H locs cells slots (MQ below (qi g A ad L v S) args s cells slots A) (F0 m pc ls [.int v]) :=
  W.iret (v := v) hexec hb hr (fun t ht _ => ⟨⟨v, (), rfl, rfl, show GW g A ad L S t.heap from ht.symm ▸ hW⟩, hS.F ht⟩) hS.2.2 hdg hlocks
theorem g_zret (hexec : p.tables.exec = Jvm.exec) (hb : c.code = cc) (hr : meth.sig.returnType = some .boolean) (hlocks : meth.locks = false) (hW : GW g A ad L S H) (hS : va_S A s.heap H locs) {v : Int32} (hz : bz v) (hdg : decode cc pc = .ok (.ireturn, 1)) : W p l e R s m args below meth c H locs cells slots (MQ below (qz g A ad L v S) args s cells slots A) (F0 m pc ls [.int v]) :=
  W.zret (v := v) hexec hb hr hz (fun t ht _ => ⟨⟨v, (), rfl, ⟨rfl, hz⟩, show GW g A ad L S t.heap from ht.symm ▸ hW⟩, hS.F ht⟩) hS.2.2 hdg hlocks
theorem g_vret (hexec : p.tables.exec = Jvm.exec) (hb : c.code = cc) (hr : meth.sig.returnType = none) (hlocks : meth.locks = false) (hW : GW g A ad L S H) (hS : va_S A s.heap H locs) (hdg : decode cc pc = .ok (.return_, 1)) : W p l e R s m args below meth c H locs cells slots (MQ below (qv g A ad L S) args s cells slots A) (F0 m pc ls []) :=
  W.vret hexec hb hr (fun t ht _ => ⟨⟨(), rfl, trivial, show GW g A ad L S t.heap from ht.symm ▸ hW⟩, hS.F ht⟩) hS.2.2 hdg hlocks
theorem g_aret (hexec : p.tables.exec = Jvm.exec) (hb : c.code = cc) {C : String} (hr : meth.sig.returnType = some (.object C)) (hlocks : meth.locks = false) (hW : GW g A ad L S H) (hS : va_S A s.heap H locs) {r : Option Nat} {v : Value} (hv : va_re ad r = v) (hdg : decode cc pc = .ok (.areturn, 1)) : W p l e R s m args below meth c H locs cells slots (MQ below (qr g A ad L r S) args s cells slots A) (F0 m pc ls [v]) := by
  subst hv
  exact W.aret hexec hb hr (Or.inl ⟨C, rfl⟩) (va_re_or ad r) (fun t ht _ => ⟨⟨r, (), rfl, rfl, show GW g A ad L S t.heap from ht.symm ▸ hW⟩, hS.F ht⟩) hS.2.2 hdg hlocks
/-! entry -/
theorem g_met {y : MethodName} {maxL : Nat} {ret : Option FieldType} {rm : Room} {Qc : Array Value → State → Outcome → State → Prop} {mc ms : Nat} (av : List Value) (hy : plainName y.cls = true) (hav : (lg_sl av).length ≤ maxL)
    (body : ∀ (p : Program) (e : Env) (s : State) (m : MethodId) (below : List Frame) (meth : Method) (c : Code) (ls : Array Slot), MC p s m av.toArray meth c cc maxL ret y.cls g → GW g A ad L S s.heap → lv_has ls maxL (lv_args 0 av) → meth.name = y.name →
      W p l e rm s m av.toArray below meth c s.heap [] 0 0 (MQ below Qc av.toArray s mc ms A) (F0 m 0 ls [])) : Met l y (gws y cc maxL ret) rm (va_Pc av (WU g A ad L S)) Qc mc ms A := by
  refine Met.ofW (cc := cc) (maxL := maxL) (ret := ret) hy rfl ?_
  intro p e s m args below meth c s₁ B hml hv
  obtain ⟨rfl, hW, hK, hN⟩ := hv
  have hts := atoms_spec (ws := gws y cc maxL ret) B.pre
  have hl := lv_entry av (n := maxL) hav
  rw [lg_entry_eq]
  exact body p e s m below meth c _ ⟨B.exec, B.bytes, hml, findClass_of_methodNamed B.named, fun w hw => hts w (List.mem_cons_of_mem _ hw), B.returns, B.notSynchronized, hK, hN⟩ hW hl (name_of_methodNamed B.named B.method).1
/-! calls -/
theorem g_blind {av : List Value} : FrameBlind (va_Pc av (WU g A ad L S)) := fun a U g2 mk q => by
  obtain ⟨q0, qP, qK, qN⟩ := q
  exact ⟨q0, qP, va_K.moved (u := U) (U := U.calling g2 mk a) (Vm.Alike.refl U.vm) qK, fun w hw => va_Nw.same rfl (rfl : U.vm = (U.calling g2 mk a).vm) (qN w hw)⟩
theorem g_preS (hW : GW g A ad L S H) (hK : va_K g.1 vwCl (gtys g) s) (hN : NW s) {As : List Value} : PreS s H (va_Pc As (WU g A ad L S)) As :=
  ⟨g_blind, fun U hU hwm => ⟨rfl, by rw [hU]; exact hW, va_K.moved hwm.alike hK, hN.warm hwm⟩⟩
theorem g_preV (hW : GW g A ad L S H) (hK : va_K g.1 vwCl (gtys g) s) (hN : NW s) {As : List Value} {o ci : Nat} {fs : List Value} {q : vw_C} (ho : o ∈ L) (he : cellOf g ad S o = .inr (ci, fs)) (hc : vwCl[ci]? = some q) : PreV s H q.1 (ad o) (va_Pc (.ref (ad o) :: As) (WU g A ad L S)) As := by
  refine ⟨g_blind, ?_, fun U hU hwm => ⟨rfl, by rw [hU]; exact hW, va_K.moved hwm.alike hK, hN.warm hwm⟩⟩
  obtain ⟨k, hq, hq2⟩ := gls_at (g := g) (ad := ad) (S := S) ho
  rw [he] at hq2
  exact va_recv hK hW.1 hc hq2
variable {y : MethodName} {bytes : ByteArray} {maxL nL mc ms n index k : Nat} {ret : Option FieldType} {rm : Room} {own : String} {As : List Value} {S1 : St} {r : Int32} {ro : Option Nat} {Qc : Array Value → State → Outcome → State → Prop}
def roomy (rm R : Room) (maxL : Nat) : Prop := rm.frames + 1 ≤ R.frames ∧ 8 + (maxL + 11) + rm.locals ≤ R.locals
/-- a call on an object -/
theorem g_runV {q : vw_C} {ci o : Nat} {fs : List Value} (hx : p.tables.exec = Jvm.exec) (hb : c.code = cc) (hml : c.maxLocals = nL) (hown : s.vm.findClass own = some m.cls) (hts : ∀ w ∈ gw_tbl, w.before args s = true) (hK : va_K g.1 vwCl (gtys g) s) (hN : NW s) (hW : GW g A ad L S H)
    (hM : Met l y (gws y bytes maxL ret) rm (va_Pc (.ref (ad o) :: As) (WU g A ad L S)) Qc mc ms A) (ho : o ∈ L) (he : cellOf g ad S o = .inr (ci, fs)) (hc : vwCl[ci]? = some q) (hg : GoodIn gw_tbl (wsV own index q.1 y (gws y bytes maxL ret)))
    (hd : y.cls = q.1 ∧ y.cls ≠ "java/lang/invoke/MethodHandle" ∧ y.cls ≠ "java/lang/invoke/VarHandle" ∧ (parseMethodDescriptor y.desc).map (fun d => d.parameters.length) = some As.length) (hrc : rm.cells = mc) (hrs : rm.slots = ms) (hroom : roomy rm R maxL) (hsz : ls.size = nL) (hcat : (rest.map fun v => v.category).sum ≤ 8) (hdg : decode cc pc = .ok (.invokevirtual index, 3)) {st : List Value} (hst : st = As.reverse ++ .ref (ad o) :: rest) (hf : cells + mc ≤ R.cells ∧ slots + ms ≤ R.slots) :
    va_Run p l e R s m args below meth c H locs cells slots mc ms (F0 m pc ls st) rest (Qc (Value.ref (ad o) :: As).toArray) A := by
  subst hst
  exact va_runV (As := As) (rest := rest) ⟨hx, hb, hml, hown, hts⟩ hM (cwV As.length hts hg rfl hrc hrs hd hroom) (g_preV hW hK hN ho he hc) rfl rfl hsz rfl (lv_room hcat) hdg hf
theorem g_runS (hx : p.tables.exec = Jvm.exec) (hb : c.code = cc) (hml : c.maxLocals = nL) (hown : s.vm.findClass own = some m.cls) (hts : ∀ w ∈ gw_tbl, w.before args s = true) (hK : va_K g.1 vwCl (gtys g) s) (hN : NW s) (hW : GW g A ad L S H)
    (hM : Met l y (gws y bytes maxL ret) rm (va_Pc As (WU g A ad L S)) Qc mc ms A) (hg : GoodIn gw_tbl (va_wsS own index y (gws y bytes maxL ret)))
    (hd : y.cls ≠ "java/lang/invoke/MethodHandle" ∧ y.cls ≠ "java/lang/invoke/VarHandle" ∧ (parseMethodDescriptor y.desc).map (fun d => d.parameters.length) = some As.length) (hrc : rm.cells = mc) (hrs : rm.slots = ms) (hroom : roomy rm R maxL) (hsz : ls.size = nL) (hcat : (rest.map fun v => v.category).sum ≤ 8) (hdg : decode cc pc = .ok (.invokestatic index, 3)) {st : List Value} (hst : st = As.reverse ++ rest) (hf : cells + mc ≤ R.cells ∧ slots + ms ≤ R.slots) :
    va_Run p l e R s m args below meth c H locs cells slots mc ms (F0 m pc ls st) rest (Qc As.toArray) A := by
  subst hst
  exact va_runS (As := As) (rest := rest) ⟨hx, hb, hml, hown, hts⟩ hM (va_cwS As.length hts hg rfl hrc hrs hd hroom) (g_preS hW hK hN) rfl rfl hsz rfl (lv_room hcat) hdg hf
theorem g_runSN (hx : p.tables.exec = Jvm.exec) (hb : c.code = cc) (hml : c.maxLocals = nL) (hown : s.vm.findClass own = some m.cls) (hts : ∀ w ∈ gw_tbl, w.before args s = true) (hK : va_K g.1 vwCl (gtys g) s) (hN : NW s) (hW : GW g A ad L S H)
    (hM : Met l y (gws y bytes maxL ret) rm (va_Pc As (WU g A ad L S)) Qc mc ms A) (h5 : Cond.code y bytes maxL ret ∈ gw_tbl) (hl : (own, index, y) ∈ nestL) (hini : Cond.initialized y.cls ∈ gw_tbl) (hstat : Cond.static y ∈ gw_tbl)
    (hd : y.cls ≠ "java/lang/invoke/MethodHandle" ∧ y.cls ≠ "java/lang/invoke/VarHandle" ∧ (parseMethodDescriptor y.desc).map (fun d => d.parameters.length) = some As.length) (hrc : rm.cells = mc) (hrs : rm.slots = ms) (hroom : roomy rm R maxL) (hsz : ls.size = nL) (hcat : (rest.map fun v => v.category).sum ≤ 8) (hdg : decode cc pc = .ok (.invokestatic index, 3)) {st : List Value} (hst : st = As.reverse ++ rest) (hf : cells + mc ≤ R.cells ∧ slots + ms ≤ R.slots) :
    va_Run p l e R s m args below meth c H locs cells slots mc ms (F0 m pc ls st) rest (Qc As.toArray) A := by
  subst hst
  exact va_runSN (As := As) (rest := rest) (host := "DroveRoads") ⟨hx, hb, hml, hown, hts⟩ hM ⟨va_cnB As.length hts (gw_GoodIn (gw_gws h5)) rfl hrc hrs (hN _ hl) (hts _ hini) hd hroom, hts _ hstat, trivial⟩ (g_preS hW hK hN) rfl rfl hsz rfl (lv_room hcat) hdg hf
theorem g_ci {a : Array Value} {st : List Value} (hr : va_Run p l e R s m args below meth c H locs cells slots 0 0 (F0 m pc ls st) rest (qi g A ad L r S1 a) A) (hS : va_S A H0 H locs)
    (kk : ∀ (H1 : Heap) (locs1 : List Loc), GW g A ad L S1 H1 → va_S A H0 H1 locs1 → W p l e R s m args below meth c H1 locs1 cells slots Q (F0 m (pc + 3) ls (.int r :: rest))) : W p l e R s m args below meth c H locs cells slots Q (F0 m pc ls st) :=
  va_calli hr hS (fun _ _ h => h) (fun _ h => h) (fun r2 _ t H1 locs1 ht _ hp hB _ _ hS1 => by subst hp; subst ht; exact kk _ locs1 hB hS1)
theorem g_cz {a : Array Value} {st : List Value} (hr : va_Run p l e R s m args below meth c H locs cells slots 0 0 (F0 m pc ls st) rest (qz g A ad L r S1 a) A) (hS : va_S A H0 H locs)
    (kk : bz r → ∀ (H1 : Heap) (locs1 : List Loc), GW g A ad L S1 H1 → va_S A H0 H1 locs1 → W p l e R s m args below meth c H1 locs1 cells slots Q (F0 m (pc + 3) ls (.int r :: rest))) : W p l e R s m args below meth c H locs cells slots Q (F0 m pc ls st) :=
  va_calli hr hS (fun _ _ h => h) (fun _ h => h) (fun r2 _ t H1 locs1 ht _ hp hB _ _ hS1 => by obtain ⟨hp, hz⟩ := hp; subst hp; subst ht; exact kk hz _ locs1 hB hS1)
theorem g_cv {a : Array Value} {st : List Value} (hr : va_Run p l e R s m args below meth c H locs cells slots 0 0 (F0 m pc ls st) rest (qv g A ad L S1 a) A) (hS : va_S A H0 H locs)
    (kk : ∀ (H1 : Heap) (locs1 : List Loc), GW g A ad L S1 H1 → va_S A H0 H1 locs1 → W p l e R s m args below meth c H1 locs1 cells slots Q (F0 m (pc + 3) ls rest)) : W p l e R s m args below meth c H locs cells slots Q (F0 m pc ls st) :=
  va_callv hr hS (fun _ _ h => h) (fun _ h => h) (fun _ t H1 locs1 ht _ hp hB _ _ hS1 => by subst ht; exact kk _ locs1 hB hS1)
theorem g_cr {a : Array Value} {st : List Value} (hr : va_Run p l e R s m args below meth c H locs cells slots 0 0 (F0 m pc ls st) rest (qr g A ad L ro S1 a) A) (hS : va_S A H0 H locs)
    (kk : ∀ (H1 : Heap) (locs1 : List Loc), GW g A ad L S1 H1 → va_S A H0 H1 locs1 → W p l e R s m args below meth c H1 locs1 cells slots Q (F0 m (pc + 3) ls (va_re ad ro :: rest))) : W p l e R s m args below meth c H locs cells slots Q (F0 m pc ls st) :=
  va_calle hr hS (fun _ _ h => h) (fun _ h => h) (fun r2 _ t H1 locs1 ht _ hp hB _ _ hS1 => by subst hp; subst ht; exact kk _ locs1 hB hS1)
/-- int and long fields of the world's objects -/
theorem fs_int {fs : List Value} {k : Nat} {x : Int32} (h : fs[k]? = some (.int x)) : k < fs.length := (List.getElem?_eq_some_iff.mp h).1
end ROWS
end
